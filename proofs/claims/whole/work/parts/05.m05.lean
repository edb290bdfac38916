def f_yX0_useHandlers (M : Mem) (i1 : Nat) (x2 : Int32) (x3 : Int32) (x4 : Int32) : Option (Int32 × Mem) := (if x2 = 31 then ob2 (f_yX5_takeFlag M i1) (fun r3 M4 => (if r3 = 0 then ob1 (f_yX5_keep M4 i1 x3 0) (fun M7 => (some (0, M7))) else ob1 (f_yX5_keep M4 i1 x3 1) (fun M9 => (some (0, M9))))) else (if x2 = 32 then ob1 (f_yX5_kept M i1 x3) (fun r12 => lt1 (mp M 6 i1 6 r12) (fun M13 => (some (7, M13)))) else (if x2 = 33 then ob2 (f_yX2_push M i1 x3 x4) (fun r16 M17 => (if r16 = 0 then (some (11, M17)) else (some (0, M17)))) else (if x2 = 34 then ob1 (f_yJ9_max_7cf53 ((M 7 i1 0) - 1) 0) (fun r21 => lt1 (mp M 7 i1 0 r21) (fun M22 => (some (0, M22)))) else (if x2 = 35 then ob1 (f_yX5_keep M i1 x3 (M 6 i1 7)) (fun M25 => ob1 (f_yX5_keep M25 i1 x4 (M25 6 i1 8)) (fun M27 => (some (0, M27)))) else (some (0, M)))))))
set_option maxRecDepth 100000 in
set_option maxHeartbeats 4000000 in
theorem c_yX0_useHandlers (l : Launch) (E : Lay) (ad : Nat → Nat → Nat) (M N : Mem) (i1 : Nat) (x2 : Int32) (x3 : Int32) (x4 : Int32) (w1 : i1 < 6) (r : Int32) (Mr : Mem) (hf : f_yX0_useHandlers M i1 x2 x3 x4 = some (r, Mr)) : Met l yX0_useHandlers (Cond.code yX0_useHandlers cX0_useHandlers 5 (some .int) :: TB) (rmm 2 42) (va_Pc [.ref (ad 3 0), .ref (ad 6 i1), .int x2, .int x3, .int x4] (PB E ad (M, N))) (Qi E ad r (Mr, N)) 0 0 (ow E) := by
  refine Met.ofW (cc := cX0_useHandlers) (maxL := 5) (ret := (some .int)) (by decide) rfl ?_
  intro p e s m args below meth c s₁ B hml hv
  obtain ⟨rfl, hW, hK, hZ⟩ := hv
  have hT : ∀ w ∈ TB, w.before _ s = true := fun w h => atoms_spec (ws := (Cond.code yX0_useHandlers cX0_useHandlers 5 (some .int) :: TB)) B.pre w (List.mem_cons_of_mem _ h)
  have X : CX p s m _ meth c cX0_useHandlers 5 (some .int) RX0 := ⟨B.exec, B.bytes, hml, findClass_of_methodNamed B.named, hT, B.returns, B.notSynchronized⟩
  obtain ⟨hx, hb, hml, hown, hT, hr, hlk⟩ := id X
  have hS : va_S (ow E) s.heap s.heap [] := va_S.rf
  have hl := lv_entry ([.ref (ad 3 0), .ref (ad 6 i1), .int x2, .int x3, .int x4]) (n := 5) (Nat.le_of_ble_eq_true rfl)
  rw [lg_entry_eq]
  generalize (lg_sl ([.ref (ad 3 0), .ref (ad 6 i1), .int x2, .int x3, .int x4]) ++ List.replicate (5 - (lg_sl ([.ref (ad 3 0), .ref (ad 6 i1), .int x2, .int x3, .int x4])).length) Slot.unset).toArray = ls at hl ⊢
  have hl : lv_has ls 5 [(0, .ref (ad 3 0)), (1, .ref (ad 6 i1)), (2, .int x2), (3, .int x3), (4, .int x4)] := hl
  unfold f_yX0_useHandlers at hf
  refine lv_iload_n hx hb dX0_useHandlers_0 rfl (lv_at hl 2 rfl) ?_
  by_cases c1 : x2 = 31
  · rw [if_pos c1] at hf
    refine lv_tableIn (tgt := 36) hx hb dX0_useHandlers_1 (by rw [c1]; decide) (by rw [c1]; decide) (by rw [c1]; rfl) (by decide) ?_
    refine lv_aload_n hx hb dX0_useHandlers_36 rfl (lv_at hl 1 rfl) ?_
    refine lv_iload_n hx hb dX0_useHandlers_37 rfl (lv_at hl 3 rfl) ?_
    refine lv_aload_n hx hb dX0_useHandlers_38 rfl (lv_at hl 1 rfl) ?_
    obtain ⟨r3, M4, h2, hf⟩ := ob2_some hf
    refine k_yX5_takeFlag X hK hZ hW hS hl.1 w1 h2 mlRX0_225 ⟨Nat.le_of_ble_eq_true rfl, Nat.le_of_ble_eq_true rfl⟩ ⟨Nat.le_of_ble_eq_true rfl, Nat.le_of_ble_eq_true rfl⟩ (Nat.le_of_ble_eq_true rfl) dX0_useHandlers_39 (fun H locs hW hS => ?_)
    refine lv_if_eq (tgt := 49) hx hb dX0_useHandlers_42 (by decide) (fun c5 => ?_) (fun c5 => ?_)
    · rw [if_pos c5] at hf
      refine lv_iconst (v := 0) hx hb dX0_useHandlers_49 (by decide) ?_
      obtain ⟨M7, h6, hf⟩ := ob1_some hf
      refine k_yX5_keep X hK hZ hW hS hl.1 w1 h6 mlRX0_68 ⟨Nat.le_of_ble_eq_true rfl, Nat.le_of_ble_eq_true rfl⟩ ⟨Nat.le_of_ble_eq_true rfl, Nat.le_of_ble_eq_true rfl⟩ (Nat.le_of_ble_eq_true rfl) dX0_useHandlers_50 (fun H locs hW hS => ?_)
      refine lv_iconst (v := 0) hx hb dX0_useHandlers_53 (by decide) ?_
      obtain ⟨rfl, rfl⟩ := sp2 hf
      exact e_i ⟨hx, hb, hr, hlk⟩ hW hS dX0_useHandlers_54
    · rw [if_neg c5] at hf
      refine lv_iconst (v := 1) hx hb dX0_useHandlers_45 (by decide) ?_
      refine lv_goto (tgt := 50) hx hb dX0_useHandlers_46 (by decide) ?_
      obtain ⟨M9, h8, hf⟩ := ob1_some hf
      refine k_yX5_keep X hK hZ hW hS hl.1 w1 h8 mlRX0_68 ⟨Nat.le_of_ble_eq_true rfl, Nat.le_of_ble_eq_true rfl⟩ ⟨Nat.le_of_ble_eq_true rfl, Nat.le_of_ble_eq_true rfl⟩ (Nat.le_of_ble_eq_true rfl) dX0_useHandlers_50 (fun H locs hW hS => ?_)
      refine lv_iconst (v := 0) hx hb dX0_useHandlers_53 (by decide) ?_
      obtain ⟨rfl, rfl⟩ := sp2 hf
      exact e_i ⟨hx, hb, hr, hlk⟩ hW hS dX0_useHandlers_54
  rw [if_neg c1] at hf
  by_cases c10 : x2 = 32
  · rw [if_pos c10] at hf
    refine lv_tableIn (tgt := 55) hx hb dX0_useHandlers_1 (by rw [c10]; decide) (by rw [c10]; decide) (by rw [c10]; rfl) (by decide) ?_
    refine lv_aload_n hx hb dX0_useHandlers_55 rfl (lv_at hl 1 rfl) ?_
    refine lv_aload_n hx hb dX0_useHandlers_56 rfl (lv_at hl 1 rfl) ?_
    refine lv_iload_n hx hb dX0_useHandlers_57 rfl (lv_at hl 3 rfl) ?_
    obtain ⟨r12, h11, hf⟩ := ob1_some hf
    refine k_yX5_kept X hK hZ hW hS hl.1 w1 h11 mlRX0_72 ⟨Nat.le_of_ble_eq_true rfl, Nat.le_of_ble_eq_true rfl⟩ ⟨Nat.le_of_ble_eq_true rfl, Nat.le_of_ble_eq_true rfl⟩ (Nat.le_of_ble_eq_true rfl) dX0_useHandlers_58 (fun H locs hW hS => ?_)
    obtain ⟨M13, hM13, hf⟩ := lt1_some hf
    refine p_5_10 X hK hW hS w1 hM13 flRX0_263 dX0_useHandlers_61 (fun H locs hW hS => ?_)
    refine lv_bipush (v := 7) hx hb dX0_useHandlers_64 (by decide) ?_
    obtain ⟨rfl, rfl⟩ := sp2 hf
    exact e_i ⟨hx, hb, hr, hlk⟩ hW hS dX0_useHandlers_66
  rw [if_neg c10] at hf
  by_cases c14 : x2 = 33
  · rw [if_pos c14] at hf
    refine lv_tableIn (tgt := 67) hx hb dX0_useHandlers_1 (by rw [c14]; decide) (by rw [c14]; decide) (by rw [c14]; rfl) (by decide) ?_
    refine lv_aload_n hx hb dX0_useHandlers_67 rfl (lv_at hl 1 rfl) ?_
    refine g_5_3 X hK hW w1 flRX0_266 dX0_useHandlers_68 ?_
    refine lv_iload_n hx hb dX0_useHandlers_71 rfl (lv_at hl 3 rfl) ?_
    refine lv_iload hx hb dX0_useHandlers_72 (lv_at hl 4 rfl) ?_
    obtain ⟨r16, M17, h15, hf⟩ := ob2_some hf
    refine k_yX2_push X hK hZ hW hS hl.1 w1 h15 mlRX0_270 ⟨Nat.le_of_ble_eq_true rfl, Nat.le_of_ble_eq_true rfl⟩ ⟨Nat.le_of_ble_eq_true rfl, Nat.le_of_ble_eq_true rfl⟩ (Nat.le_of_ble_eq_true rfl) dX0_useHandlers_74 (fun H locs hW hS => ?_)
    refine lv_if_eq (tgt := 84) hx hb dX0_useHandlers_77 (by decide) (fun c18 => ?_) (fun c18 => ?_)
    · rw [if_pos c18] at hf
      refine lv_bipush (v := 11) hx hb dX0_useHandlers_84 (by decide) ?_
      obtain ⟨rfl, rfl⟩ := sp2 hf
      exact e_i ⟨hx, hb, hr, hlk⟩ hW hS dX0_useHandlers_86
    · rw [if_neg c18] at hf
      refine lv_iconst (v := 0) hx hb dX0_useHandlers_80 (by decide) ?_
      refine lv_goto (tgt := 86) hx hb dX0_useHandlers_81 (by decide) ?_
      obtain ⟨rfl, rfl⟩ := sp2 hf
      exact e_i ⟨hx, hb, hr, hlk⟩ hW hS dX0_useHandlers_86
  rw [if_neg c14] at hf
  by_cases c19 : x2 = 34
  · rw [if_pos c19] at hf
    refine lv_tableIn (tgt := 87) hx hb dX0_useHandlers_1 (by rw [c19]; decide) (by rw [c19]; decide) (by rw [c19]; rfl) (by decide) ?_
    refine lv_aload_n hx hb dX0_useHandlers_87 rfl (lv_at hl 1 rfl) ?_
    refine g_5_3 X hK hW w1 flRX0_266 dX0_useHandlers_88 ?_
    refine lv_aload_n hx hb dX0_useHandlers_91 rfl (lv_at hl 1 rfl) ?_
    refine g_5_3 X hK hW w1 flRX0_266 dX0_useHandlers_92 ?_
    refine g_2_2 X hK hW w1 flRX0_276 dX0_useHandlers_95 ?_
    refine lv_iconst (v := 1) hx hb dX0_useHandlers_98 (by decide) ?_
    refine lv_isub hx hb dX0_useHandlers_99 ?_
    refine lv_iconst (v := 0) hx hb dX0_useHandlers_100 (by decide) ?_
    obtain ⟨r21, h20, hf⟩ := ob1_some hf
    refine k_yJ9_max_7cf53 X hK hZ hW hS hl.1 h20 mlRX0_279 ⟨Nat.le_of_ble_eq_true rfl, Nat.le_of_ble_eq_true rfl⟩ ⟨Nat.le_of_ble_eq_true rfl, Nat.le_of_ble_eq_true rfl⟩ (Nat.le_of_ble_eq_true rfl) dX0_useHandlers_101 (fun H locs hW hS => ?_)
    obtain ⟨M22, hM22, hf⟩ := lt1_some hf
    refine p_2_2 X hK hW hS w1 hM22 flRX0_276 dX0_useHandlers_104 (fun H locs hW hS => ?_)
    refine lv_iconst (v := 0) hx hb dX0_useHandlers_107 (by decide) ?_
    obtain ⟨rfl, rfl⟩ := sp2 hf
    exact e_i ⟨hx, hb, hr, hlk⟩ hW hS dX0_useHandlers_108
  rw [if_neg c19] at hf
  by_cases c23 : x2 = 35
  · rw [if_pos c23] at hf
    refine lv_tableIn (tgt := 109) hx hb dX0_useHandlers_1 (by rw [c23]; decide) (by rw [c23]; decide) (by rw [c23]; rfl) (by decide) ?_
    refine lv_aload_n hx hb dX0_useHandlers_109 rfl (lv_at hl 1 rfl) ?_
    refine lv_iload_n hx hb dX0_useHandlers_110 rfl (lv_at hl 3 rfl) ?_
    refine lv_aload_n hx hb dX0_useHandlers_111 rfl (lv_at hl 1 rfl) ?_
    refine g_5_11 X hK hW w1 flRX0_284 dX0_useHandlers_112 ?_
    obtain ⟨M25, h24, hf⟩ := ob1_some hf
    refine k_yX5_keep X hK hZ hW hS hl.1 w1 h24 mlRX0_68 ⟨Nat.le_of_ble_eq_true rfl, Nat.le_of_ble_eq_true rfl⟩ ⟨Nat.le_of_ble_eq_true rfl, Nat.le_of_ble_eq_true rfl⟩ (Nat.le_of_ble_eq_true rfl) dX0_useHandlers_115 (fun H locs hW hS => ?_)
    refine lv_aload_n hx hb dX0_useHandlers_118 rfl (lv_at hl 1 rfl) ?_
    refine lv_iload hx hb dX0_useHandlers_119 (lv_at hl 4 rfl) ?_
    refine lv_aload_n hx hb dX0_useHandlers_121 rfl (lv_at hl 1 rfl) ?_
    refine g_5_12 X hK hW w1 flRX0_287 dX0_useHandlers_122 ?_
    obtain ⟨M27, h26, hf⟩ := ob1_some hf
    refine k_yX5_keep X hK hZ hW hS hl.1 w1 h26 mlRX0_68 ⟨Nat.le_of_ble_eq_true rfl, Nat.le_of_ble_eq_true rfl⟩ ⟨Nat.le_of_ble_eq_true rfl, Nat.le_of_ble_eq_true rfl⟩ (Nat.le_of_ble_eq_true rfl) dX0_useHandlers_125 (fun H locs hW hS => ?_)
    refine lv_iconst (v := 0) hx hb dX0_useHandlers_128 (by decide) ?_
    obtain ⟨rfl, rfl⟩ := sp2 hf
    exact e_i ⟨hx, hb, hr, hlk⟩ hW hS dX0_useHandlers_129
  rw [if_neg c23] at hf
  refine lv_tableOut (tgt := 130) hx hb dX0_useHandlers_1 (by have := lv_neT (a := 31) c1 (by decide); have := lv_neT (a := 32) c10 (by decide); have := lv_neT (a := 33) c14 (by decide); have := lv_neT (a := 34) c19 (by decide); have := lv_neT (a := 35) c23 (by decide); omega) (by decide) ?_
  refine lv_iconst (v := 0) hx hb dX0_useHandlers_130 (by decide) ?_
  obtain ⟨rfl, rfl⟩ := sp2 hf
  exact e_i ⟨hx, hb, hr, hlk⟩ hW hS dX0_useHandlers_131
set_option maxRecDepth 100000 in
set_option maxHeartbeats 4000000 in
theorem k_yX0_useHandlers {p : Program} {l : Launch} {e : Env} {R : Room} {s : State} {m : MethodId} {args : Array Value} {below : List Frame} {meth : Method} {c : Code} {H : Heap} {locs : List Loc} {cells slots : Nat} {Q : State → Prop} {cc : ByteArray} {pc nL index : Nat} {ret : Option FieldType} {own : String} {ls : Array Slot} {rest : List Value} {E : Lay} {ad : Nat → Nat → Nat} {M N : Mem} (X : CX p s m args meth c cc nL ret own) (hK : KK E s) (hZ : ZZ E s) (hW : WD E ad (M, N) H) (hS : va_S (ow E) s.heap H locs) (hsz : ls.size = nL) {i1 : Nat} {x2 : Int32} {x3 : Int32} {x4 : Int32} (w1 : i1 < 6) {r : Int32} {Mr : Mem} (hf : f_yX0_useHandlers M i1 x2 x3 x4 = some (r, Mr)) (hn : Cond.methodLink own index yX0_useHandlers ∈ TB) (hR : 2 + 1 ≤ R.frames ∧ 8 + (5 + 11) + 42 ≤ R.locals) (hC : cells ≤ R.cells ∧ slots ≤ R.slots) (h8 : (rest.map fun v => v.category).sum ≤ 8) (hdg : decode cc pc = .ok (.invokevirtual index, 3)) (kk : ∀ (H1 : Heap) (locs1 : List Loc), WD E ad (Mr, N) H1 → va_S (ow E) s.heap H1 locs1 → W p l e R s m args below meth c H1 locs1 cells slots Q (F0 m (pc + 3) ls (.int r :: rest))) : W p l e R s m args below meth c H locs cells slots Q (F0 m pc ls (.int x4 :: .int x3 :: .int x2 :: .ref (ad 6 i1) :: .ref (ad 3 0) :: rest)) := by
  refine va_calli (va_runV (C := RX0) (As := [.ref (ad 6 i1), .int x2, .int x3, .int x4]) (rest := rest) ⟨X.1, X.2.1, X.2.2.1, X.2.2.2.1, X.2.2.2.2.1⟩ (c_yX0_useHandlers l E ad M N i1 x2 x3 x4 w1 r Mr hf) (cwV 4 X.2.2.2.2.1 (gV hn im_yX0_useHandlers se_yX0_useHandlers iniRX0 cd_yX0_useHandlers) rfl rfl rfl (by decide +kernel) hR) ⟨fun a U g mk q => ⟨q.1, q.2.calling⟩, va_recv hK.1 (hW.at (c := 3) (i := 0) Nat.zero_lt_one rfl) (ci := 0) (q0 := 0) rfl rfl, fun U hU hw => ⟨rfl, PB.at hW hK hZ hS hU hw⟩⟩ rfl rfl hsz rfl (lv_room h8) hdg hC) hS (fun _ _ h => h) (fun _ h => h) (fun r' u t H1 locs1 ht hvm hw hB hz1 hk1 hS1 => ?_)
  obtain ⟨rfl, rfl⟩ := hw
  rw [ht] at hB
  exact kk H1 locs1 hB hS1
def f_yX1_isInUse_L11 : Nat → Mem → Nat → Int32 → Int32 → Option (Int32)
  | 0, _, _, _, _ => none
  | n + 1, M0, k1, y3, y4 => (if y3 ≤ y4 then (some 0) else gd (¬ (y4 < 0 ∨ 6 ≤ y4.toNatClampNeg)) ((if M0 6 y4.toNatClampNeg 1 < 0 then (f_yX1_isInUse_L11 n M0 k1 y3 (y4 + 1)) else gd ((M0 6 y4.toNatClampNeg 1).toNatClampNeg < 8) ((if (M0 6 y4.toNatClampNeg 1).toNatClampNeg = k1 then ob1 (f_yX5_isUnderWay M0 y4.toNatClampNeg) (fun r9 => (if r9 = 0 then (f_yX1_isInUse_L11 n M0 k1 y3 (y4 + 1)) else (some 1))) else (f_yX1_isInUse_L11 n M0 k1 y3 (y4 + 1)))))))
def f_yX1_isInUse (M : Mem) (i1 : Nat) : Option (Int32) := (f_yX1_isInUse_L11 70 M i1 6 0)
set_option maxRecDepth 100000 in
set_option maxHeartbeats 4000000 in
theorem l_yX1_isInUse_11 (l : Launch) (E : Lay) (ad : Nat → Nat → Nat) (N : Mem) {p : Program} {e : Env} {s : State} {m : MethodId} {args : Array Value} {below : List Frame} {meth : Method} {c : Code} (X : CX p s m args meth c cX1_isInUse 6 (some .boolean) RX1) (hK : KK E s) (hZ : ZZ E s) : ∀ (n : Nat) (M0 : Mem) (k1 : Nat) (y3 : Int32) (y4 : Int32) (r : Int32) (hf : f_yX1_isInUse_L11 n M0 k1 y3 y4 = some r) (w1 : k1 < 8) (H : Heap) (locs : List Loc) (ls : Array Slot), WD E ad (M0, N) H → va_S (ow E) s.heap H locs → lv_has ls 6 [(1, .ref (ad 5 k1)), (2, .ref (ad 10 0)), (3, .int y3), (4, .int y4)] → W p l e (rmm 1 20) s m args below meth c H locs 0 0 (MQ below (Qi E ad r (M0, N)) args s 0 0 (ow E)) (F0 m 11 ls []) := by
  obtain ⟨hx, hb, hml, hown, hT, hr, hlk⟩ := id X
  intro n
  induction n with
  | zero =>
    intro M0 k1 y3 y4 r hf
    rw [f_yX1_isInUse_L11] at hf
    cases hf
  | succ n ih =>
    intro M0 k1 y3 y4 r hf w1 H locs ls hW hS hl
    rw [f_yX1_isInUse_L11] at hf
    refine lv_iload hx hb dX1_isInUse_11 (lv_at hl 3 rfl) ?_
    refine lv_iload_n hx hb dX1_isInUse_13 rfl (lv_at hl 2 rfl) ?_
    refine lv_icmp_ge (tgt := 48) hx hb dX1_isInUse_14 (by decide) (fun c1 => ?_) (fun c1 => ?_)
    · rw [if_pos c1] at hf
      refine lv_iconst (v := 0) hx hb dX1_isInUse_48 (by decide) ?_
      obtain rfl := sp1 hf
      exact e_z ⟨hx, hb, hr, hlk⟩ rfl hW hS dX1_isInUse_49
    · rw [if_neg c1] at hf
      refine lv_aload_n hx hb dX1_isInUse_17 rfl (lv_at hl 1 rfl) ?_
      refine lv_iload hx hb dX1_isInUse_18 (lv_at hl 3 rfl) ?_
      obtain ⟨b2, hf⟩ := gd_some hf
      have v3 : y4.toNatClampNeg < 6 := Nat.not_le.mp fun z => b2 (Or.inr z)
      refine al_10 X hK hW b2 dX1_isInUse_20 ?_
      refine lv_astore (lv' := [(5, .ref (ad 6 y4.toNatClampNeg)), (1, .ref (ad 5 k1)), (2, .ref (ad 10 0)), (3, .int y3), (4, .int y4)]) hx hb dX1_isInUse_21 hl (by decide) rfl (fun ls hl => ?_)
      refine lv_aload hx hb dX1_isInUse_23 (lv_at hl 0 rfl) ?_
      by_cases c4 : M0 6 y4.toNatClampNeg 1 < 0
      · rw [if_pos c4] at hf
        refine g_5_5n X hK hW v3 flRX1_24 dX1_isInUse_25 c4 ?_
        refine lv_aload_n hx hb dX1_isInUse_28 rfl (lv_at hl 1 rfl) ?_
        refine lv_acmp_ne (rx := none) (ry := (some (ad 5 k1))) (tgt := 42) hx hb dX1_isInUse_29 (by decide) (fun c5 => ?_) (fun c5 => ?_)
        · skip
          refine lv_iinc (v := (y4 + 1)) (lv' := [(4, .int (y4 + 1)), (5, .ref (ad 6 y4.toNatClampNeg)), (1, .ref (ad 5 k1)), (2, .ref (ad 10 0)), (3, .int y3)]) hx hb dX1_isInUse_42 hl (k := 4) rfl rfl (by decide) rfl (fun ls hl => ?_)
          refine lv_goto (tgt := 11) hx hb dX1_isInUse_45 (by decide) ?_
          exact ih _ _ _ _ _ hf w1 _ _ _ hW hS (lv_sub hl [2, 3, 4, 0] rfl)
        · cases c5
      · rw [if_neg c4] at hf
        refine g_5_5s X hK hW v3 flRX1_24 dX1_isInUse_25 c4 ?_
        refine lv_aload_n hx hb dX1_isInUse_28 rfl (lv_at hl 1 rfl) ?_
        obtain ⟨v7, hf⟩ := gd_some hf
        refine lv_acmp_ne (rx := (some (ad 5 (M0 6 y4.toNatClampNeg 1).toNatClampNeg))) (ry := (some (ad 5 k1))) (tgt := 42) hx hb dX1_isInUse_29 (by decide) (fun c6 => ?_) (fun c6 => ?_)
        · rw [if_neg (fun z => c6 (by rw [z]))] at hf
          refine lv_iinc (v := (y4 + 1)) (lv' := [(4, .int (y4 + 1)), (5, .ref (ad 6 y4.toNatClampNeg)), (1, .ref (ad 5 k1)), (2, .ref (ad 10 0)), (3, .int y3)]) hx hb dX1_isInUse_42 hl (k := 4) rfl rfl (by decide) rfl (fun ls hl => ?_)
          refine lv_goto (tgt := 11) hx hb dX1_isInUse_45 (by decide) ?_
          exact ih _ _ _ _ _ hf w1 _ _ _ hW hS (lv_sub hl [2, 3, 4, 0] rfl)
        · rw [if_pos (hW.2.1 5 (M0 6 y4.toNatClampNeg 1).toNatClampNeg 5 k1 v7 w1 (Option.some.inj c6)).2] at hf
          refine lv_aload hx hb dX1_isInUse_32 (lv_at hl 0 rfl) ?_
          obtain ⟨r9, h8, hf⟩ := ob1_some hf
          refine k_yX5_isUnderWay X hK hZ hW hS hl.1 v3 h8 mlRX1_28 ⟨Nat.le_of_ble_eq_true rfl, Nat.le_of_ble_eq_true rfl⟩ ⟨Nat.le_of_ble_eq_true rfl, Nat.le_of_ble_eq_true rfl⟩ (Nat.le_of_ble_eq_true rfl) dX1_isInUse_34 (fun H locs hW hS => ?_)
          refine lv_if_eq (tgt := 42) hx hb dX1_isInUse_37 (by decide) (fun c10 => ?_) (fun c10 => ?_)
          · rw [if_pos c10] at hf
            refine lv_iinc (v := (y4 + 1)) (lv' := [(4, .int (y4 + 1)), (5, .ref (ad 6 y4.toNatClampNeg)), (1, .ref (ad 5 k1)), (2, .ref (ad 10 0)), (3, .int y3)]) hx hb dX1_isInUse_42 hl (k := 4) rfl rfl (by decide) rfl (fun ls hl => ?_)
            refine lv_goto (tgt := 11) hx hb dX1_isInUse_45 (by decide) ?_
            exact ih _ _ _ _ _ hf w1 _ _ _ hW hS (lv_sub hl [2, 3, 4, 0] rfl)
          · rw [if_neg c10] at hf
            refine lv_iconst (v := 1) hx hb dX1_isInUse_40 (by decide) ?_
            obtain rfl := sp1 hf
            exact e_z ⟨hx, hb, hr, hlk⟩ rfl hW hS dX1_isInUse_41
set_option maxRecDepth 100000 in
set_option maxHeartbeats 4000000 in
theorem c_yX1_isInUse (l : Launch) (E : Lay) (ad : Nat → Nat → Nat) (M N : Mem) (i1 : Nat) (w1 : i1 < 8) (r : Int32) (hf : f_yX1_isInUse M i1 = some r) : Met l yX1_isInUse (Cond.code yX1_isInUse cX1_isInUse 6 (some .boolean) :: TB) (rmm 1 20) (va_Pc [.ref (ad 2 0), .ref (ad 5 i1)] (PB E ad (M, N))) (Qi E ad r (M, N)) 0 0 (ow E) := by
  refine Met.ofW (cc := cX1_isInUse) (maxL := 6) (ret := (some .boolean)) (by decide) rfl ?_
  intro p e s m args below meth c s₁ B hml hv
  obtain ⟨rfl, hW, hK, hZ⟩ := hv
  have hT : ∀ w ∈ TB, w.before _ s = true := fun w h => atoms_spec (ws := (Cond.code yX1_isInUse cX1_isInUse 6 (some .boolean) :: TB)) B.pre w (List.mem_cons_of_mem _ h)
  have X : CX p s m _ meth c cX1_isInUse 6 (some .boolean) RX1 := ⟨B.exec, B.bytes, hml, findClass_of_methodNamed B.named, hT, B.returns, B.notSynchronized⟩
  obtain ⟨hx, hb, hml, hown, hT, hr, hlk⟩ := id X
  have hS : va_S (ow E) s.heap s.heap [] := va_S.rf
  have hl := lv_entry ([.ref (ad 2 0), .ref (ad 5 i1)]) (n := 6) (Nat.le_of_ble_eq_true rfl)
  rw [lg_entry_eq]
  generalize (lg_sl ([.ref (ad 2 0), .ref (ad 5 i1)]) ++ List.replicate (6 - (lg_sl ([.ref (ad 2 0), .ref (ad 5 i1)])).length) Slot.unset).toArray = ls at hl ⊢
  have hl : lv_has ls 6 [(0, .ref (ad 2 0)), (1, .ref (ad 5 i1))] := hl
  unfold f_yX1_isInUse at hf
  refine lv_aload_n hx hb dX1_isInUse_0 rfl (lv_at hl 0 rfl) ?_
  refine g_1_1 X hK hW flRX1_11 dX1_isInUse_1 ?_
  refine lv_astore_n (lv' := [(2, .ref (ad 10 0)), (0, .ref (ad 2 0)), (1, .ref (ad 5 i1))]) hx hb dX1_isInUse_4 rfl hl (by decide) rfl (fun ls hl => ?_)
  refine lv_aload_n hx hb dX1_isInUse_5 rfl (lv_at hl 0 rfl) ?_
  refine an_10 X hK hW dX1_isInUse_6 ?_
  refine lv_istore_n (lv' := [(3, .int 6), (2, .ref (ad 10 0)), (0, .ref (ad 2 0)), (1, .ref (ad 5 i1))]) hx hb dX1_isInUse_7 rfl hl (by decide) rfl (fun ls hl => ?_)
  refine lv_iconst (v := 0) hx hb dX1_isInUse_8 (by decide) ?_
  refine lv_istore (lv' := [(4, .int 0), (3, .int 6), (2, .ref (ad 10 0)), (0, .ref (ad 2 0)), (1, .ref (ad 5 i1))]) hx hb dX1_isInUse_9 hl (by decide) rfl (fun ls hl => ?_)
  exact (l_yX1_isInUse_11 l E ad N X hK hZ 70) _ _ _ _ _ hf w1 _ _ _ hW hS (lv_sub hl [4, 2, 1, 0] rfl)
set_option maxRecDepth 100000 in
set_option maxHeartbeats 4000000 in
theorem k_yX1_isInUse {p : Program} {l : Launch} {e : Env} {R : Room} {s : State} {m : MethodId} {args : Array Value} {below : List Frame} {meth : Method} {c : Code} {H : Heap} {locs : List Loc} {cells slots : Nat} {Q : State → Prop} {cc : ByteArray} {pc nL index : Nat} {ret : Option FieldType} {own : String} {ls : Array Slot} {rest : List Value} {E : Lay} {ad : Nat → Nat → Nat} {M N : Mem} (X : CX p s m args meth c cc nL ret own) (hK : KK E s) (hZ : ZZ E s) (hW : WD E ad (M, N) H) (hS : va_S (ow E) s.heap H locs) (hsz : ls.size = nL) {i1 : Nat} (w1 : i1 < 8) {r : Int32} (hf : f_yX1_isInUse M i1 = some r) (hn : Cond.methodLink own index yX1_isInUse ∈ TB) (hR : 1 + 1 ≤ R.frames ∧ 8 + (6 + 11) + 20 ≤ R.locals) (hC : cells ≤ R.cells ∧ slots ≤ R.slots) (h8 : (rest.map fun v => v.category).sum ≤ 8) (hdg : decode cc pc = .ok (.invokevirtual index, 3)) (kk : ∀ (H1 : Heap) (locs1 : List Loc), WD E ad (M, N) H1 → va_S (ow E) s.heap H1 locs1 → W p l e R s m args below meth c H1 locs1 cells slots Q (F0 m (pc + 3) ls (.int r :: rest))) : W p l e R s m args below meth c H locs cells slots Q (F0 m pc ls (.ref (ad 5 i1) :: .ref (ad 2 0) :: rest)) := by
  refine va_calli (va_runV (C := RX1) (As := [.ref (ad 5 i1)]) (rest := rest) ⟨X.1, X.2.1, X.2.2.1, X.2.2.2.1, X.2.2.2.2.1⟩ (c_yX1_isInUse l E ad M N i1 w1 r hf) (cwV 1 X.2.2.2.2.1 (gV hn im_yX1_isInUse se_yX1_isInUse iniRX1 cd_yX1_isInUse) rfl rfl rfl (by decide +kernel) hR) ⟨fun a U g mk q => ⟨q.1, q.2.calling⟩, va_recv hK.1 (hW.at (c := 2) (i := 0) Nat.zero_lt_one rfl) (ci := 1) (q0 := 0) rfl rfl, fun U hU hw => ⟨rfl, PB.at hW hK hZ hS hU hw⟩⟩ rfl rfl hsz rfl (lv_room h8) hdg hC) hS (fun _ _ h => h) (fun _ h => h) (fun r' u t H1 locs1 ht hvm hw hB hz1 hk1 hS1 => ?_)
  obtain ⟨rfl, rfl⟩ := hw
  rw [ht] at hB
  exact kk H1 locs1 hB hS1
def f_yX1_howManyUnderWay_L13 : Nat → Mem → Int32 → Int32 → Int32 → Option (Int32)
  | 0, _, _, _, _ => none
  | n + 1, M0, y1, y3, y4 => (if y3 ≤ y4 then (some y1) else gd (¬ (y4 < 0 ∨ 6 ≤ y4.toNatClampNeg)) (ob1 (f_yX5_isUnderWay M0 y4.toNatClampNeg) (fun r5 => (if r5 = 0 then (f_yX1_howManyUnderWay_L13 n M0 y1 y3 (y4 + 1)) else (f_yX1_howManyUnderWay_L13 n M0 (y1 + 1) y3 (y4 + 1))))))
def f_yX1_howManyUnderWay (M : Mem) : Option (Int32) := (f_yX1_howManyUnderWay_L13 70 M 0 6 0)
set_option maxRecDepth 100000 in
set_option maxHeartbeats 4000000 in
theorem l_yX1_howManyUnderWay_13 (l : Launch) (E : Lay) (ad : Nat → Nat → Nat) (N : Mem) {p : Program} {e : Env} {s : State} {m : MethodId} {args : Array Value} {below : List Frame} {meth : Method} {c : Code} (X : CX p s m args meth c cX1_howManyUnderWay 6 (some .int) RX1) (hK : KK E s) (hZ : ZZ E s) : ∀ (n : Nat) (M0 : Mem) (y1 : Int32) (y3 : Int32) (y4 : Int32) (r : Int32) (hf : f_yX1_howManyUnderWay_L13 n M0 y1 y3 y4 = some r) (H : Heap) (locs : List Loc) (ls : Array Slot), WD E ad (M0, N) H → va_S (ow E) s.heap H locs → lv_has ls 6 [(1, .int y1), (2, .ref (ad 10 0)), (3, .int y3), (4, .int y4)] → W p l e (rmm 1 20) s m args below meth c H locs 0 0 (MQ below (Qi E ad r (M0, N)) args s 0 0 (ow E)) (F0 m 13 ls []) := by
  obtain ⟨hx, hb, hml, hown, hT, hr, hlk⟩ := id X
  intro n
  induction n with
  | zero =>
    intro M0 y1 y3 y4 r hf
    rw [f_yX1_howManyUnderWay_L13] at hf
    cases hf
  | succ n ih =>
    intro M0 y1 y3 y4 r hf H locs ls hW hS hl
    rw [f_yX1_howManyUnderWay_L13] at hf
    refine lv_iload hx hb dX1_howManyUnderWay_13 (lv_at hl 3 rfl) ?_
    refine lv_iload_n hx hb dX1_howManyUnderWay_15 rfl (lv_at hl 2 rfl) ?_
    refine lv_icmp_ge (tgt := 42) hx hb dX1_howManyUnderWay_16 (by decide) (fun c1 => ?_) (fun c1 => ?_)
    · rw [if_pos c1] at hf
      refine lv_iload_n hx hb dX1_howManyUnderWay_42 rfl (lv_at hl 0 rfl) ?_
      obtain rfl := sp1 hf
      exact e_i ⟨hx, hb, hr, hlk⟩ hW hS dX1_howManyUnderWay_43
    · rw [if_neg c1] at hf
      refine lv_aload_n hx hb dX1_howManyUnderWay_19 rfl (lv_at hl 1 rfl) ?_
      refine lv_iload hx hb dX1_howManyUnderWay_20 (lv_at hl 3 rfl) ?_
      obtain ⟨b2, hf⟩ := gd_some hf
      have v3 : y4.toNatClampNeg < 6 := Nat.not_le.mp fun z => b2 (Or.inr z)
      refine al_10 X hK hW b2 dX1_howManyUnderWay_22 ?_
      refine lv_astore (lv' := [(5, .ref (ad 6 y4.toNatClampNeg)), (1, .int y1), (2, .ref (ad 10 0)), (3, .int y3), (4, .int y4)]) hx hb dX1_howManyUnderWay_23 hl (by decide) rfl (fun ls hl => ?_)
      refine lv_aload hx hb dX1_howManyUnderWay_25 (lv_at hl 0 rfl) ?_
      obtain ⟨r5, h4, hf⟩ := ob1_some hf
      refine k_yX5_isUnderWay X hK hZ hW hS hl.1 v3 h4 mlRX1_28 ⟨Nat.le_of_ble_eq_true rfl, Nat.le_of_ble_eq_true rfl⟩ ⟨Nat.le_of_ble_eq_true rfl, Nat.le_of_ble_eq_true rfl⟩ (Nat.le_of_ble_eq_true rfl) dX1_howManyUnderWay_27 (fun H locs hW hS => ?_)
      refine lv_if_eq (tgt := 36) hx hb dX1_howManyUnderWay_30 (by decide) (fun c6 => ?_) (fun c6 => ?_)
      · rw [if_pos c6] at hf
        refine lv_iinc (v := (y4 + 1)) (lv' := [(4, .int (y4 + 1)), (5, .ref (ad 6 y4.toNatClampNeg)), (1, .int y1), (2, .ref (ad 10 0)), (3, .int y3)]) hx hb dX1_howManyUnderWay_36 hl (k := 4) rfl rfl (by decide) rfl (fun ls hl => ?_)
        refine lv_goto (tgt := 13) hx hb dX1_howManyUnderWay_39 (by decide) ?_
        exact ih _ _ _ _ _ hf _ _ _ hW hS (lv_sub hl [2, 3, 4, 0] rfl)
      · rw [if_neg c6] at hf
        refine lv_iinc (v := (y1 + 1)) (lv' := [(1, .int (y1 + 1)), (5, .ref (ad 6 y4.toNatClampNeg)), (2, .ref (ad 10 0)), (3, .int y3), (4, .int y4)]) hx hb dX1_howManyUnderWay_33 hl (k := 1) rfl rfl (by decide) rfl (fun ls hl => ?_)
        refine lv_iinc (v := (y4 + 1)) (lv' := [(4, .int (y4 + 1)), (1, .int (y1 + 1)), (5, .ref (ad 6 y4.toNatClampNeg)), (2, .ref (ad 10 0)), (3, .int y3)]) hx hb dX1_howManyUnderWay_36 hl (k := 4) rfl rfl (by decide) rfl (fun ls hl => ?_)
        refine lv_goto (tgt := 13) hx hb dX1_howManyUnderWay_39 (by decide) ?_
        exact ih _ _ _ _ _ hf _ _ _ hW hS (lv_sub hl [1, 3, 4, 0] rfl)
set_option maxRecDepth 100000 in
set_option maxHeartbeats 4000000 in
theorem c_yX1_howManyUnderWay (l : Launch) (E : Lay) (ad : Nat → Nat → Nat) (M N : Mem) (r : Int32) (hf : f_yX1_howManyUnderWay M = some r) : Met l yX1_howManyUnderWay (Cond.code yX1_howManyUnderWay cX1_howManyUnderWay 6 (some .int) :: TB) (rmm 1 20) (va_Pc [.ref (ad 2 0)] (PB E ad (M, N))) (Qi E ad r (M, N)) 0 0 (ow E) := by
  refine Met.ofW (cc := cX1_howManyUnderWay) (maxL := 6) (ret := (some .int)) (by decide) rfl ?_
  intro p e s m args below meth c s₁ B hml hv
  obtain ⟨rfl, hW, hK, hZ⟩ := hv
  have hT : ∀ w ∈ TB, w.before _ s = true := fun w h => atoms_spec (ws := (Cond.code yX1_howManyUnderWay cX1_howManyUnderWay 6 (some .int) :: TB)) B.pre w (List.mem_cons_of_mem _ h)
  have X : CX p s m _ meth c cX1_howManyUnderWay 6 (some .int) RX1 := ⟨B.exec, B.bytes, hml, findClass_of_methodNamed B.named, hT, B.returns, B.notSynchronized⟩
  obtain ⟨hx, hb, hml, hown, hT, hr, hlk⟩ := id X
  have hS : va_S (ow E) s.heap s.heap [] := va_S.rf
  have hl := lv_entry ([.ref (ad 2 0)]) (n := 6) (Nat.le_of_ble_eq_true rfl)
  rw [lg_entry_eq]
  generalize (lg_sl ([.ref (ad 2 0)]) ++ List.replicate (6 - (lg_sl ([.ref (ad 2 0)])).length) Slot.unset).toArray = ls at hl ⊢
  have hl : lv_has ls 6 [(0, .ref (ad 2 0))] := hl
  unfold f_yX1_howManyUnderWay at hf
  refine lv_iconst (v := 0) hx hb dX1_howManyUnderWay_0 (by decide) ?_
  refine lv_istore_n (lv' := [(1, .int 0), (0, .ref (ad 2 0))]) hx hb dX1_howManyUnderWay_1 rfl hl (by decide) rfl (fun ls hl => ?_)
  refine lv_aload_n hx hb dX1_howManyUnderWay_2 rfl (lv_at hl 1 rfl) ?_
  refine g_1_1 X hK hW flRX1_11 dX1_howManyUnderWay_3 ?_
  refine lv_astore_n (lv' := [(2, .ref (ad 10 0)), (1, .int 0), (0, .ref (ad 2 0))]) hx hb dX1_howManyUnderWay_6 rfl hl (by decide) rfl (fun ls hl => ?_)
  refine lv_aload_n hx hb dX1_howManyUnderWay_7 rfl (lv_at hl 0 rfl) ?_
  refine an_10 X hK hW dX1_howManyUnderWay_8 ?_
  refine lv_istore_n (lv' := [(3, .int 6), (2, .ref (ad 10 0)), (1, .int 0), (0, .ref (ad 2 0))]) hx hb dX1_howManyUnderWay_9 rfl hl (by decide) rfl (fun ls hl => ?_)
  refine lv_iconst (v := 0) hx hb dX1_howManyUnderWay_10 (by decide) ?_
  refine lv_istore (lv' := [(4, .int 0), (3, .int 6), (2, .ref (ad 10 0)), (1, .int 0), (0, .ref (ad 2 0))]) hx hb dX1_howManyUnderWay_11 hl (by decide) rfl (fun ls hl => ?_)
  exact (l_yX1_howManyUnderWay_13 l E ad N X hK hZ 70) _ _ _ _ _ hf _ _ _ hW hS (lv_sub hl [3, 2, 1, 0] rfl)
set_option maxRecDepth 100000 in
set_option maxHeartbeats 4000000 in
theorem k_yX1_howManyUnderWay {p : Program} {l : Launch} {e : Env} {R : Room} {s : State} {m : MethodId} {args : Array Value} {below : List Frame} {meth : Method} {c : Code} {H : Heap} {locs : List Loc} {cells slots : Nat} {Q : State → Prop} {cc : ByteArray} {pc nL index : Nat} {ret : Option FieldType} {own : String} {ls : Array Slot} {rest : List Value} {E : Lay} {ad : Nat → Nat → Nat} {M N : Mem} (X : CX p s m args meth c cc nL ret own) (hK : KK E s) (hZ : ZZ E s) (hW : WD E ad (M, N) H) (hS : va_S (ow E) s.heap H locs) (hsz : ls.size = nL) {r : Int32} (hf : f_yX1_howManyUnderWay M = some r) (hn : Cond.methodLink own index yX1_howManyUnderWay ∈ TB) (hR : 1 + 1 ≤ R.frames ∧ 8 + (6 + 11) + 20 ≤ R.locals) (hC : cells ≤ R.cells ∧ slots ≤ R.slots) (h8 : (rest.map fun v => v.category).sum ≤ 8) (hdg : decode cc pc = .ok (.invokevirtual index, 3)) (kk : ∀ (H1 : Heap) (locs1 : List Loc), WD E ad (M, N) H1 → va_S (ow E) s.heap H1 locs1 → W p l e R s m args below meth c H1 locs1 cells slots Q (F0 m (pc + 3) ls (.int r :: rest))) : W p l e R s m args below meth c H locs cells slots Q (F0 m pc ls (.ref (ad 2 0) :: rest)) := by
  refine va_calli (va_runV (C := RX1) (As := []) (rest := rest) ⟨X.1, X.2.1, X.2.2.1, X.2.2.2.1, X.2.2.2.2.1⟩ (c_yX1_howManyUnderWay l E ad M N r hf) (cwV 0 X.2.2.2.2.1 (gV hn im_yX1_howManyUnderWay se_yX1_howManyUnderWay iniRX1 cd_yX1_howManyUnderWay) rfl rfl rfl (by decide +kernel) hR) ⟨fun a U g mk q => ⟨q.1, q.2.calling⟩, va_recv hK.1 (hW.at (c := 2) (i := 0) Nat.zero_lt_one rfl) (ci := 1) (q0 := 0) rfl rfl, fun U hU hw => ⟨rfl, PB.at hW hK hZ hS hU hw⟩⟩ rfl rfl hsz rfl (lv_room h8) hdg hC) hS (fun _ _ h => h) (fun _ h => h) (fun r' u t H1 locs1 ht hvm hw hB hz1 hk1 hS1 => ?_)
  obtain ⟨rfl, rfl⟩ := hw
  rw [ht] at hB
  exact kk H1 locs1 hB hS1
def f_yX1_isOver (M : Mem) : Option (Int32) := ob1 (f_yX1_howManyUnderWay M) (fun r2 => (if r2 = 0 then (some 1) else (some 0)))
set_option maxRecDepth 100000 in
set_option maxHeartbeats 4000000 in
theorem c_yX1_isOver (l : Launch) (E : Lay) (ad : Nat → Nat → Nat) (M N : Mem) (r : Int32) (hf : f_yX1_isOver M = some r) : Met l yX1_isOver (Cond.code yX1_isOver cX1_isOver 1 (some .boolean) :: TB) (rmm 2 45) (va_Pc [.ref (ad 2 0)] (PB E ad (M, N))) (Qi E ad r (M, N)) 0 0 (ow E) := by
  refine Met.ofW (cc := cX1_isOver) (maxL := 1) (ret := (some .boolean)) (by decide) rfl ?_
  intro p e s m args below meth c s₁ B hml hv
  obtain ⟨rfl, hW, hK, hZ⟩ := hv
  have hT : ∀ w ∈ TB, w.before _ s = true := fun w h => atoms_spec (ws := (Cond.code yX1_isOver cX1_isOver 1 (some .boolean) :: TB)) B.pre w (List.mem_cons_of_mem _ h)
  have X : CX p s m _ meth c cX1_isOver 1 (some .boolean) RX1 := ⟨B.exec, B.bytes, hml, findClass_of_methodNamed B.named, hT, B.returns, B.notSynchronized⟩
  obtain ⟨hx, hb, hml, hown, hT, hr, hlk⟩ := id X
  have hS : va_S (ow E) s.heap s.heap [] := va_S.rf
  have hl := lv_entry ([.ref (ad 2 0)]) (n := 1) (Nat.le_of_ble_eq_true rfl)
  rw [lg_entry_eq]
  generalize (lg_sl ([.ref (ad 2 0)]) ++ List.replicate (1 - (lg_sl ([.ref (ad 2 0)])).length) Slot.unset).toArray = ls at hl ⊢
  have hl : lv_has ls 1 [(0, .ref (ad 2 0))] := hl
  unfold f_yX1_isOver at hf
  refine lv_aload_n hx hb dX1_isOver_0 rfl (lv_at hl 0 rfl) ?_
  obtain ⟨r2, h1, hf⟩ := ob1_some hf
  refine k_yX1_howManyUnderWay X hK hZ hW hS hl.1 h1 mlRX1_39 ⟨Nat.le_of_ble_eq_true rfl, Nat.le_of_ble_eq_true rfl⟩ ⟨Nat.le_of_ble_eq_true rfl, Nat.le_of_ble_eq_true rfl⟩ (Nat.le_of_ble_eq_true rfl) dX1_isOver_1 (fun H locs hW hS => ?_)
  refine lv_if_ne (tgt := 11) hx hb dX1_isOver_4 (by decide) (fun c3 => ?_) (fun c3 => ?_)
  · rw [if_neg c3] at hf
    refine lv_iconst (v := 0) hx hb dX1_isOver_11 (by decide) ?_
    obtain rfl := sp1 hf
    exact e_z ⟨hx, hb, hr, hlk⟩ rfl hW hS dX1_isOver_12
  · rw [if_pos c3] at hf
    refine lv_iconst (v := 1) hx hb dX1_isOver_7 (by decide) ?_
    refine lv_goto (tgt := 12) hx hb dX1_isOver_8 (by decide) ?_
    obtain rfl := sp1 hf
    exact e_z ⟨hx, hb, hr, hlk⟩ rfl hW hS dX1_isOver_12
set_option maxRecDepth 100000 in
set_option maxHeartbeats 4000000 in
theorem k_yX1_isOver {p : Program} {l : Launch} {e : Env} {R : Room} {s : State} {m : MethodId} {args : Array Value} {below : List Frame} {meth : Method} {c : Code} {H : Heap} {locs : List Loc} {cells slots : Nat} {Q : State → Prop} {cc : ByteArray} {pc nL index : Nat} {ret : Option FieldType} {own : String} {ls : Array Slot} {rest : List Value} {E : Lay} {ad : Nat → Nat → Nat} {M N : Mem} (X : CX p s m args meth c cc nL ret own) (hK : KK E s) (hZ : ZZ E s) (hW : WD E ad (M, N) H) (hS : va_S (ow E) s.heap H locs) (hsz : ls.size = nL) {r : Int32} (hf : f_yX1_isOver M = some r) (hn : Cond.methodLink own index yX1_isOver ∈ TB) (hR : 2 + 1 ≤ R.frames ∧ 8 + (1 + 11) + 45 ≤ R.locals) (hC : cells ≤ R.cells ∧ slots ≤ R.slots) (h8 : (rest.map fun v => v.category).sum ≤ 8) (hdg : decode cc pc = .ok (.invokevirtual index, 3)) (kk : ∀ (H1 : Heap) (locs1 : List Loc), WD E ad (M, N) H1 → va_S (ow E) s.heap H1 locs1 → W p l e R s m args below meth c H1 locs1 cells slots Q (F0 m (pc + 3) ls (.int r :: rest))) : W p l e R s m args below meth c H locs cells slots Q (F0 m pc ls (.ref (ad 2 0) :: rest)) := by
  refine va_calli (va_runV (C := RX1) (As := []) (rest := rest) ⟨X.1, X.2.1, X.2.2.1, X.2.2.2.1, X.2.2.2.2.1⟩ (c_yX1_isOver l E ad M N r hf) (cwV 0 X.2.2.2.2.1 (gV hn im_yX1_isOver se_yX1_isOver iniRX1 cd_yX1_isOver) rfl rfl rfl (by decide +kernel) hR) ⟨fun a U g mk q => ⟨q.1, q.2.calling⟩, va_recv hK.1 (hW.at (c := 2) (i := 0) Nat.zero_lt_one rfl) (ci := 1) (q0 := 0) rfl rfl, fun U hU hw => ⟨rfl, PB.at hW hK hZ hS hU hw⟩⟩ rfl rfl hsz rfl (lv_room h8) hdg hC) hS (fun _ _ h => h) (fun _ h => h) (fun r' u t H1 locs1 ht hvm hw hB hz1 hk1 hS1 => ?_)
  obtain ⟨rfl, rfl⟩ := hw
  rw [ht] at hB
  exact kk H1 locs1 hB hS1
def f_yX1_isStuck_L10 : Nat → Mem → Int32 → Int32 → Option (Int32)
  | 0, _, _, _ => none
  | n + 1, M0, y2, y3 => (if y2 ≤ y3 then ob1 (f_yX1_isOver M0) (fun r3 => (if r3 = 0 then (some 1) else (some 0))) else gd (¬ (y3 < 0 ∨ 6 ≤ y3.toNatClampNeg)) ((if (M0 6 y3.toNatClampNeg 0) = 2 then (some 0) else (if (M0 6 y3.toNatClampNeg 12) = (-4) then (f_yX1_isStuck_L10 n M0 y2 (y3 + 1)) else (some 0)))))
def f_yX1_isStuck (M : Mem) : Option (Int32) := (f_yX1_isStuck_L10 70 M 6 0)
set_option maxRecDepth 100000 in
set_option maxHeartbeats 4000000 in
theorem l_yX1_isStuck_10 (l : Launch) (E : Lay) (ad : Nat → Nat → Nat) (N : Mem) {p : Program} {e : Env} {s : State} {m : MethodId} {args : Array Value} {below : List Frame} {meth : Method} {c : Code} (X : CX p s m args meth c cX1_isStuck 5 (some .boolean) RX1) (hK : KK E s) (hZ : ZZ E s) : ∀ (n : Nat) (M0 : Mem) (y2 : Int32) (y3 : Int32) (r : Int32) (hf : f_yX1_isStuck_L10 n M0 y2 y3 = some r) (H : Heap) (locs : List Loc) (ls : Array Slot), WD E ad (M0, N) H → va_S (ow E) s.heap H locs → lv_has ls 5 [(0, .ref (ad 2 0)), (1, .ref (ad 10 0)), (2, .int y2), (3, .int y3)] → W p l e (rmm 3 65) s m args below meth c H locs 0 0 (MQ below (Qi E ad r (M0, N)) args s 0 0 (ow E)) (F0 m 10 ls []) := by
  obtain ⟨hx, hb, hml, hown, hT, hr, hlk⟩ := id X
  intro n
  induction n with
  | zero =>
    intro M0 y2 y3 r hf
    rw [f_yX1_isStuck_L10] at hf
    cases hf
  | succ n ih =>
    intro M0 y2 y3 r hf H locs ls hW hS hl
    rw [f_yX1_isStuck_L10] at hf
    refine lv_iload_n hx hb dX1_isStuck_10 rfl (lv_at hl 3 rfl) ?_
    refine lv_iload_n hx hb dX1_isStuck_11 rfl (lv_at hl 2 rfl) ?_
    refine lv_icmp_ge (tgt := 47) hx hb dX1_isStuck_12 (by decide) (fun c1 => ?_) (fun c1 => ?_)
    · rw [if_pos c1] at hf
      refine lv_aload_n hx hb dX1_isStuck_47 rfl (lv_at hl 0 rfl) ?_
      obtain ⟨r3, h2, hf⟩ := ob1_some hf
      refine k_yX1_isOver X hK hZ hW hS hl.1 h2 mlRX1_46 ⟨Nat.le_of_ble_eq_true rfl, Nat.le_of_ble_eq_true rfl⟩ ⟨Nat.le_of_ble_eq_true rfl, Nat.le_of_ble_eq_true rfl⟩ (Nat.le_of_ble_eq_true rfl) dX1_isStuck_48 (fun H locs hW hS => ?_)
      refine lv_if_ne (tgt := 58) hx hb dX1_isStuck_51 (by decide) (fun c4 => ?_) (fun c4 => ?_)
      · rw [if_neg c4] at hf
        refine lv_iconst (v := 0) hx hb dX1_isStuck_58 (by decide) ?_
        obtain rfl := sp1 hf
        exact e_z ⟨hx, hb, hr, hlk⟩ rfl hW hS dX1_isStuck_59
      · rw [if_pos c4] at hf
        refine lv_iconst (v := 1) hx hb dX1_isStuck_54 (by decide) ?_
        refine lv_goto (tgt := 59) hx hb dX1_isStuck_55 (by decide) ?_
        obtain rfl := sp1 hf
        exact e_z ⟨hx, hb, hr, hlk⟩ rfl hW hS dX1_isStuck_59
    · rw [if_neg c1] at hf
      refine lv_aload_n hx hb dX1_isStuck_15 rfl (lv_at hl 1 rfl) ?_
      refine lv_iload_n hx hb dX1_isStuck_16 rfl (lv_at hl 3 rfl) ?_
      obtain ⟨b5, hf⟩ := gd_some hf
      have v6 : y3.toNatClampNeg < 6 := Nat.not_le.mp fun z => b5 (Or.inr z)
      refine al_10 X hK hW b5 dX1_isStuck_17 ?_
      refine lv_astore (lv' := [(4, .ref (ad 6 y3.toNatClampNeg)), (0, .ref (ad 2 0)), (1, .ref (ad 10 0)), (2, .int y2), (3, .int y3)]) hx hb dX1_isStuck_18 hl (by decide) rfl (fun ls hl => ?_)
      refine lv_aload hx hb dX1_isStuck_20 (lv_at hl 0 rfl) ?_
      refine g_5_4 X hK hW v6 flRX1_32 dX1_isStuck_22 ?_
      refine lv_iconst (v := 2) hx hb dX1_isStuck_25 (by decide) ?_
      refine lv_icmp_eq (tgt := 39) hx hb dX1_isStuck_26 (by decide) (fun c7 => ?_) (fun c7 => ?_)
      · rw [if_pos c7] at hf
        refine lv_iconst (v := 0) hx hb dX1_isStuck_39 (by decide) ?_
        obtain rfl := sp1 hf
        exact e_z ⟨hx, hb, hr, hlk⟩ rfl hW hS dX1_isStuck_40
      · rw [if_neg c7] at hf
        refine lv_aload hx hb dX1_isStuck_29 (lv_at hl 0 rfl) ?_
        refine g_5_16 X hK hW v6 flRX1_43 dX1_isStuck_31 ?_
        refine lv_bipush (v := -4) hx hb dX1_isStuck_34 (by decide) ?_
        refine lv_icmp_eq (tgt := 41) hx hb dX1_isStuck_36 (by decide) (fun c8 => ?_) (fun c8 => ?_)
        · rw [if_pos c8] at hf
          refine lv_iinc (v := (y3 + 1)) (lv' := [(3, .int (y3 + 1)), (4, .ref (ad 6 y3.toNatClampNeg)), (0, .ref (ad 2 0)), (1, .ref (ad 10 0)), (2, .int y2)]) hx hb dX1_isStuck_41 hl (k := 4) rfl rfl (by decide) rfl (fun ls hl => ?_)
          refine lv_goto (tgt := 10) hx hb dX1_isStuck_44 (by decide) ?_
          exact ih _ _ _ _ hf _ _ _ hW hS (lv_sub hl [2, 3, 4, 0] rfl)
        · rw [if_neg c8] at hf
          refine lv_iconst (v := 0) hx hb dX1_isStuck_39 (by decide) ?_
          obtain rfl := sp1 hf
          exact e_z ⟨hx, hb, hr, hlk⟩ rfl hW hS dX1_isStuck_40
set_option maxRecDepth 100000 in
set_option maxHeartbeats 4000000 in
theorem c_yX1_isStuck (l : Launch) (E : Lay) (ad : Nat → Nat → Nat) (M N : Mem) (r : Int32) (hf : f_yX1_isStuck M = some r) : Met l yX1_isStuck (Cond.code yX1_isStuck cX1_isStuck 5 (some .boolean) :: TB) (rmm 3 65) (va_Pc [.ref (ad 2 0)] (PB E ad (M, N))) (Qi E ad r (M, N)) 0 0 (ow E) := by
  refine Met.ofW (cc := cX1_isStuck) (maxL := 5) (ret := (some .boolean)) (by decide) rfl ?_
  intro p e s m args below meth c s₁ B hml hv
  obtain ⟨rfl, hW, hK, hZ⟩ := hv
  have hT : ∀ w ∈ TB, w.before _ s = true := fun w h => atoms_spec (ws := (Cond.code yX1_isStuck cX1_isStuck 5 (some .boolean) :: TB)) B.pre w (List.mem_cons_of_mem _ h)
  have X : CX p s m _ meth c cX1_isStuck 5 (some .boolean) RX1 := ⟨B.exec, B.bytes, hml, findClass_of_methodNamed B.named, hT, B.returns, B.notSynchronized⟩
  obtain ⟨hx, hb, hml, hown, hT, hr, hlk⟩ := id X
  have hS : va_S (ow E) s.heap s.heap [] := va_S.rf
  have hl := lv_entry ([.ref (ad 2 0)]) (n := 5) (Nat.le_of_ble_eq_true rfl)
  rw [lg_entry_eq]
  generalize (lg_sl ([.ref (ad 2 0)]) ++ List.replicate (5 - (lg_sl ([.ref (ad 2 0)])).length) Slot.unset).toArray = ls at hl ⊢
  have hl : lv_has ls 5 [(0, .ref (ad 2 0))] := hl
  unfold f_yX1_isStuck at hf
  refine lv_aload_n hx hb dX1_isStuck_0 rfl (lv_at hl 0 rfl) ?_
  refine g_1_1 X hK hW flRX1_11 dX1_isStuck_1 ?_
  refine lv_astore_n (lv' := [(1, .ref (ad 10 0)), (0, .ref (ad 2 0))]) hx hb dX1_isStuck_4 rfl hl (by decide) rfl (fun ls hl => ?_)
  refine lv_aload_n hx hb dX1_isStuck_5 rfl (lv_at hl 0 rfl) ?_
  refine an_10 X hK hW dX1_isStuck_6 ?_
  refine lv_istore_n (lv' := [(2, .int 6), (1, .ref (ad 10 0)), (0, .ref (ad 2 0))]) hx hb dX1_isStuck_7 rfl hl (by decide) rfl (fun ls hl => ?_)
  refine lv_iconst (v := 0) hx hb dX1_isStuck_8 (by decide) ?_
  refine lv_istore_n (lv' := [(3, .int 0), (2, .int 6), (1, .ref (ad 10 0)), (0, .ref (ad 2 0))]) hx hb dX1_isStuck_9 rfl hl (by decide) rfl (fun ls hl => ?_)
  exact (l_yX1_isStuck_10 l E ad N X hK hZ 70) _ _ _ _ hf _ _ _ hW hS (lv_sub hl [3, 2, 1, 0] rfl)
set_option maxRecDepth 100000 in
set_option maxHeartbeats 4000000 in
theorem k_yX1_isStuck {p : Program} {l : Launch} {e : Env} {R : Room} {s : State} {m : MethodId} {args : Array Value} {below : List Frame} {meth : Method} {c : Code} {H : Heap} {locs : List Loc} {cells slots : Nat} {Q : State → Prop} {cc : ByteArray} {pc nL index : Nat} {ret : Option FieldType} {own : String} {ls : Array Slot} {rest : List Value} {E : Lay} {ad : Nat → Nat → Nat} {M N : Mem} (X : CX p s m args meth c cc nL ret own) (hK : KK E s) (hZ : ZZ E s) (hW : WD E ad (M, N) H) (hS : va_S (ow E) s.heap H locs) (hsz : ls.size = nL) {r : Int32} (hf : f_yX1_isStuck M = some r) (hn : Cond.methodLink own index yX1_isStuck ∈ TB) (hR : 3 + 1 ≤ R.frames ∧ 8 + (5 + 11) + 65 ≤ R.locals) (hC : cells ≤ R.cells ∧ slots ≤ R.slots) (h8 : (rest.map fun v => v.category).sum ≤ 8) (hdg : decode cc pc = .ok (.invokevirtual index, 3)) (kk : ∀ (H1 : Heap) (locs1 : List Loc), WD E ad (M, N) H1 → va_S (ow E) s.heap H1 locs1 → W p l e R s m args below meth c H1 locs1 cells slots Q (F0 m (pc + 3) ls (.int r :: rest))) : W p l e R s m args below meth c H locs cells slots Q (F0 m pc ls (.ref (ad 2 0) :: rest)) := by
  refine va_calli (va_runV (C := RX1) (As := []) (rest := rest) ⟨X.1, X.2.1, X.2.2.1, X.2.2.2.1, X.2.2.2.2.1⟩ (c_yX1_isStuck l E ad M N r hf) (cwV 0 X.2.2.2.2.1 (gV hn im_yX1_isStuck se_yX1_isStuck iniRX1 cd_yX1_isStuck) rfl rfl rfl (by decide +kernel) hR) ⟨fun a U g mk q => ⟨q.1, q.2.calling⟩, va_recv hK.1 (hW.at (c := 2) (i := 0) Nat.zero_lt_one rfl) (ci := 1) (q0 := 0) rfl rfl, fun U hU hw => ⟨rfl, PB.at hW hK hZ hS hU hw⟩⟩ rfl rfl hsz rfl (lv_room h8) hdg hC) hS (fun _ _ h => h) (fun _ h => h) (fun r' u t H1 locs1 ht hvm hw hB hz1 hk1 hS1 => ?_)
  obtain ⟨rfl, rfl⟩ := hw
  rw [ht] at hB
  exact kk H1 locs1 hB hS1
def f_yX1_firstReadyBehind_L2 : Nat → Mem → Int32 → Int32 → Option (Option Nat)
  | 0, _, _, _ => none
  | n + 1, M0, y1, y2 => (if 6 < y2 then (some none) else ob1 (f_yJ9_floorMod_7cf53 (y1 + y2) 6) (fun r3 => ob1 (f_yX1_at M0 r3) (fun r5 => om r5 ((f_yX1_firstReadyBehind_L2 n M0 y1 (y2 + 1))) (fun j6 => gd (j6 < 6) ((if (M0 6 j6 0) = 2 then (some (some j6)) else (f_yX1_firstReadyBehind_L2 n M0 y1 (y2 + 1))))))))
def f_yX1_firstReadyBehind (M : Mem) (x1 : Int32) : Option (Option Nat) := (f_yX1_firstReadyBehind_L2 70 M x1 1)
set_option maxRecDepth 100000 in
set_option maxHeartbeats 4000000 in
theorem l_yX1_firstReadyBehind_2 (l : Launch) (E : Lay) (ad : Nat → Nat → Nat) (N : Mem) {p : Program} {e : Env} {s : State} {m : MethodId} {args : Array Value} {below : List Frame} {meth : Method} {c : Code} (X : CX p s m args meth c cX1_firstReadyBehind 4 (some (.object "MonitorTurns$Strand")) RX1) (hK : KK E s) (hZ : ZZ E s) : ∀ (n : Nat) (M0 : Mem) (y1 : Int32) (y2 : Int32) (r : Option Nat) (hf : f_yX1_firstReadyBehind_L2 n M0 y1 y2 = some r) (H : Heap) (locs : List Loc) (ls : Array Slot), WD E ad (M0, N) H → va_S (ow E) s.heap H locs → lv_has ls 4 [(0, .ref (ad 2 0)), (1, .int y1), (2, .int y2)] → W p l e (rmm 1 22) s m args below meth c H locs 0 0 (MQ below (Qq E ad ((r).map (ad 6)) (M0, N)) args s 0 0 (ow E)) (F0 m 2 ls []) := by
  obtain ⟨hx, hb, hml, hown, hT, hr, hlk⟩ := id X
  intro n
  induction n with
  | zero =>
    intro M0 y1 y2 r hf
    rw [f_yX1_firstReadyBehind_L2] at hf
    cases hf
  | succ n ih =>
    intro M0 y1 y2 r hf H locs ls hW hS hl
    rw [f_yX1_firstReadyBehind_L2] at hf
    refine lv_iload_n hx hb dX1_firstReadyBehind_2 rfl (lv_at hl 2 rfl) ?_
    refine lv_bipush (v := 6) hx hb dX1_firstReadyBehind_3 (by decide) ?_
    refine lv_icmp_gt (tgt := 41) hx hb dX1_firstReadyBehind_5 (by decide) (fun c1 => ?_) (fun c1 => ?_)
    · rw [if_pos c1] at hf
      refine lv_null hx hb dX1_firstReadyBehind_41 ?_
      obtain rfl := sp1 hf
      exact e_q ⟨hx, hb, hr, hlk⟩ (Or.inl ⟨_, rfl⟩) rfl hW hS dX1_firstReadyBehind_42
    · rw [if_neg c1] at hf
      refine lv_aload_n hx hb dX1_firstReadyBehind_8 rfl (lv_at hl 0 rfl) ?_
      refine lv_iload_n hx hb dX1_firstReadyBehind_9 rfl (lv_at hl 1 rfl) ?_
      refine lv_iload_n hx hb dX1_firstReadyBehind_10 rfl (lv_at hl 2 rfl) ?_
      refine lv_iadd hx hb dX1_firstReadyBehind_11 ?_
      refine lv_bipush (v := 6) hx hb dX1_firstReadyBehind_12 (by decide) ?_
      obtain ⟨r3, h2, hf⟩ := ob1_some hf
      refine k_yJ9_floorMod_7cf53 X hK hZ hW hS hl.1 h2 mlRX1_69 ⟨Nat.le_of_ble_eq_true rfl, Nat.le_of_ble_eq_true rfl⟩ ⟨Nat.le_of_ble_eq_true rfl, Nat.le_of_ble_eq_true rfl⟩ (Nat.le_of_ble_eq_true rfl) dX1_firstReadyBehind_14 (fun H locs hW hS => ?_)
      obtain ⟨r5, h4, hf⟩ := ob1_some hf
      rcases r5 with _ | j6
      · rw [om_n] at hf
        refine k_yX1_atn X hK hZ hW hS hl.1 h4 mlRX1_75 ⟨Nat.le_of_ble_eq_true rfl, Nat.le_of_ble_eq_true rfl⟩ ⟨Nat.le_of_ble_eq_true rfl, Nat.le_of_ble_eq_true rfl⟩ (Nat.le_of_ble_eq_true rfl) dX1_firstReadyBehind_17 (fun H locs hW hS => ?_)
        refine lv_astore_nN (lv' := [(3, .null), (0, .ref (ad 2 0)), (1, .int y1), (2, .int y2)]) hx hb dX1_firstReadyBehind_20 rfl hl (by decide) rfl (fun ls hl => ?_)
        refine lv_aload_nN hx hb dX1_firstReadyBehind_21 rfl (lv_at hl 0 rfl) ?_
        refine lv_ifnullN (tgt := 35) hx hb dX1_firstReadyBehind_22 (by decide) ?_
        refine lv_iinc (v := (y2 + 1)) (lv' := [(2, .int (y2 + 1)), (3, .null), (0, .ref (ad 2 0)), (1, .int y1)]) hx hb dX1_firstReadyBehind_35 hl (k := 3) rfl rfl (by decide) rfl (fun ls hl => ?_)
        refine lv_goto (tgt := 2) hx hb dX1_firstReadyBehind_38 (by decide) ?_
        exact ih _ _ _ _ hf _ _ _ hW hS (lv_sub hl [2, 3, 0] rfl)
      · rw [om_s] at hf
        refine k_yX1_ats X hK hZ hW hS hl.1 h4 mlRX1_75 ⟨Nat.le_of_ble_eq_true rfl, Nat.le_of_ble_eq_true rfl⟩ ⟨Nat.le_of_ble_eq_true rfl, Nat.le_of_ble_eq_true rfl⟩ (Nat.le_of_ble_eq_true rfl) dX1_firstReadyBehind_17 (fun H locs hW hS => ?_)
        refine lv_astore_n (lv' := [(3, .ref (ad 6 j6)), (0, .ref (ad 2 0)), (1, .int y1), (2, .int y2)]) hx hb dX1_firstReadyBehind_20 rfl hl (by decide) rfl (fun ls hl => ?_)
        refine lv_aload_n hx hb dX1_firstReadyBehind_21 rfl (lv_at hl 0 rfl) ?_
        refine lv_ifnull hx hb dX1_firstReadyBehind_22 ?_
        refine lv_aload_n hx hb dX1_firstReadyBehind_25 rfl (lv_at hl 0 rfl) ?_
        obtain ⟨v7, hf⟩ := gd_some hf
        refine g_5_4 X hK hW v7 flRX1_32 dX1_firstReadyBehind_26 ?_
        refine lv_iconst (v := 2) hx hb dX1_firstReadyBehind_29 (by decide) ?_
        refine lv_icmp_ne (tgt := 35) hx hb dX1_firstReadyBehind_30 (by decide) (fun c8 => ?_) (fun c8 => ?_)
        · rw [if_neg c8] at hf
          refine lv_iinc (v := (y2 + 1)) (lv' := [(2, .int (y2 + 1)), (3, .ref (ad 6 j6)), (0, .ref (ad 2 0)), (1, .int y1)]) hx hb dX1_firstReadyBehind_35 hl (k := 3) rfl rfl (by decide) rfl (fun ls hl => ?_)
          refine lv_goto (tgt := 2) hx hb dX1_firstReadyBehind_38 (by decide) ?_
          exact ih _ _ _ _ hf _ _ _ hW hS (lv_sub hl [2, 3, 0] rfl)
        · rw [if_pos c8] at hf
          refine lv_aload_n hx hb dX1_firstReadyBehind_33 rfl (lv_at hl 0 rfl) ?_
          obtain rfl := sp1 hf
          exact e_q ⟨hx, hb, hr, hlk⟩ (Or.inl ⟨_, rfl⟩) rfl hW hS dX1_firstReadyBehind_34
set_option maxRecDepth 100000 in
set_option maxHeartbeats 4000000 in
theorem c_yX1_firstReadyBehind (l : Launch) (E : Lay) (ad : Nat → Nat → Nat) (M N : Mem) (x1 : Int32) (r : Option Nat) (hf : f_yX1_firstReadyBehind M x1 = some r) : Met l yX1_firstReadyBehind (Cond.code yX1_firstReadyBehind cX1_firstReadyBehind 4 (some (.object "MonitorTurns$Strand")) :: TB) (rmm 1 22) (va_Pc [.ref (ad 2 0), .int x1] (PB E ad (M, N))) (Qq E ad ((r).map (ad 6)) (M, N)) 0 0 (ow E) := by
  refine Met.ofW (cc := cX1_firstReadyBehind) (maxL := 4) (ret := (some (.object "MonitorTurns$Strand"))) (by decide) rfl ?_
  intro p e s m args below meth c s₁ B hml hv
  obtain ⟨rfl, hW, hK, hZ⟩ := hv
  have hT : ∀ w ∈ TB, w.before _ s = true := fun w h => atoms_spec (ws := (Cond.code yX1_firstReadyBehind cX1_firstReadyBehind 4 (some (.object "MonitorTurns$Strand")) :: TB)) B.pre w (List.mem_cons_of_mem _ h)
  have X : CX p s m _ meth c cX1_firstReadyBehind 4 (some (.object "MonitorTurns$Strand")) RX1 := ⟨B.exec, B.bytes, hml, findClass_of_methodNamed B.named, hT, B.returns, B.notSynchronized⟩
  obtain ⟨hx, hb, hml, hown, hT, hr, hlk⟩ := id X
  have hS : va_S (ow E) s.heap s.heap [] := va_S.rf
  have hl := lv_entry ([.ref (ad 2 0), .int x1]) (n := 4) (Nat.le_of_ble_eq_true rfl)
  rw [lg_entry_eq]
  generalize (lg_sl ([.ref (ad 2 0), .int x1]) ++ List.replicate (4 - (lg_sl ([.ref (ad 2 0), .int x1])).length) Slot.unset).toArray = ls at hl ⊢
  have hl : lv_has ls 4 [(0, .ref (ad 2 0)), (1, .int x1)] := hl
  unfold f_yX1_firstReadyBehind at hf
  refine lv_iconst (v := 1) hx hb dX1_firstReadyBehind_0 (by decide) ?_
  refine lv_istore_n (lv' := [(2, .int 1), (0, .ref (ad 2 0)), (1, .int x1)]) hx hb dX1_firstReadyBehind_1 rfl hl (by decide) rfl (fun ls hl => ?_)
  exact (l_yX1_firstReadyBehind_2 l E ad N X hK hZ 70) _ _ _ _ hf _ _ _ hW hS (lv_sub hl [1, 2, 0] rfl)
set_option maxRecDepth 100000 in
set_option maxHeartbeats 4000000 in
theorem k_yX1_firstReadyBehindn {p : Program} {l : Launch} {e : Env} {R : Room} {s : State} {m : MethodId} {args : Array Value} {below : List Frame} {meth : Method} {c : Code} {H : Heap} {locs : List Loc} {cells slots : Nat} {Q : State → Prop} {cc : ByteArray} {pc nL index : Nat} {ret : Option FieldType} {own : String} {ls : Array Slot} {rest : List Value} {E : Lay} {ad : Nat → Nat → Nat} {M N : Mem} (X : CX p s m args meth c cc nL ret own) (hK : KK E s) (hZ : ZZ E s) (hW : WD E ad (M, N) H) (hS : va_S (ow E) s.heap H locs) (hsz : ls.size = nL) {x1 : Int32} (hf : f_yX1_firstReadyBehind M x1 = some none) (hn : Cond.methodLink own index yX1_firstReadyBehind ∈ TB) (hR : 1 + 1 ≤ R.frames ∧ 8 + (4 + 11) + 22 ≤ R.locals) (hC : cells ≤ R.cells ∧ slots ≤ R.slots) (h8 : (rest.map fun v => v.category).sum ≤ 8) (hdg : decode cc pc = .ok (.invokevirtual index, 3)) (kk : ∀ (H1 : Heap) (locs1 : List Loc), WD E ad (M, N) H1 → va_S (ow E) s.heap H1 locs1 → W p l e R s m args below meth c H1 locs1 cells slots Q (F0 m (pc + 3) ls (.null :: rest))) : W p l e R s m args below meth c H locs cells slots Q (F0 m pc ls (.int x1 :: .ref (ad 2 0) :: rest)) := by
  refine va_callq (va_runV (C := RX1) (As := [.int x1]) (rest := rest) ⟨X.1, X.2.1, X.2.2.1, X.2.2.2.1, X.2.2.2.2.1⟩ (c_yX1_firstReadyBehind l E ad M N x1 none hf) (cwV 1 X.2.2.2.2.1 (gV hn im_yX1_firstReadyBehind se_yX1_firstReadyBehind iniRX1 cd_yX1_firstReadyBehind) rfl rfl rfl (by decide +kernel) hR) ⟨fun a U g mk q => ⟨q.1, q.2.calling⟩, va_recv hK.1 (hW.at (c := 2) (i := 0) Nat.zero_lt_one rfl) (ci := 1) (q0 := 0) rfl rfl, fun U hU hw => ⟨rfl, PB.at hW hK hZ hS hU hw⟩⟩ rfl rfl hsz rfl (lv_room h8) hdg hC) hS (fun _ _ h => h) (fun _ h => h) (fun r' u t H1 locs1 ht hvm hw hB hz1 hk1 hS1 => ?_)
  obtain ⟨rfl, rfl⟩ := hw
  rw [ht] at hB
  exact kk H1 locs1 hB hS1
set_option maxRecDepth 100000 in
set_option maxHeartbeats 4000000 in
theorem k_yX1_firstReadyBehinds {p : Program} {l : Launch} {e : Env} {R : Room} {s : State} {m : MethodId} {args : Array Value} {below : List Frame} {meth : Method} {c : Code} {H : Heap} {locs : List Loc} {cells slots : Nat} {Q : State → Prop} {cc : ByteArray} {pc nL index : Nat} {ret : Option FieldType} {own : String} {ls : Array Slot} {rest : List Value} {E : Lay} {ad : Nat → Nat → Nat} {M N : Mem} (X : CX p s m args meth c cc nL ret own) (hK : KK E s) (hZ : ZZ E s) (hW : WD E ad (M, N) H) (hS : va_S (ow E) s.heap H locs) (hsz : ls.size = nL) {x1 : Int32} {jr : Nat} (hf : f_yX1_firstReadyBehind M x1 = some (some jr)) (hn : Cond.methodLink own index yX1_firstReadyBehind ∈ TB) (hR : 1 + 1 ≤ R.frames ∧ 8 + (4 + 11) + 22 ≤ R.locals) (hC : cells ≤ R.cells ∧ slots ≤ R.slots) (h8 : (rest.map fun v => v.category).sum ≤ 8) (hdg : decode cc pc = .ok (.invokevirtual index, 3)) (kk : ∀ (H1 : Heap) (locs1 : List Loc), WD E ad (M, N) H1 → va_S (ow E) s.heap H1 locs1 → W p l e R s m args below meth c H1 locs1 cells slots Q (F0 m (pc + 3) ls (.ref (ad 6 jr) :: rest))) : W p l e R s m args below meth c H locs cells slots Q (F0 m pc ls (.int x1 :: .ref (ad 2 0) :: rest)) := by
  refine va_callq (va_runV (C := RX1) (As := [.int x1]) (rest := rest) ⟨X.1, X.2.1, X.2.2.1, X.2.2.2.1, X.2.2.2.2.1⟩ (c_yX1_firstReadyBehind l E ad M N x1 (some jr) hf) (cwV 1 X.2.2.2.2.1 (gV hn im_yX1_firstReadyBehind se_yX1_firstReadyBehind iniRX1 cd_yX1_firstReadyBehind) rfl rfl rfl (by decide +kernel) hR) ⟨fun a U g mk q => ⟨q.1, q.2.calling⟩, va_recv hK.1 (hW.at (c := 2) (i := 0) Nat.zero_lt_one rfl) (ci := 1) (q0 := 0) rfl rfl, fun U hU hw => ⟨rfl, PB.at hW hK hZ hS hU hw⟩⟩ rfl rfl hsz rfl (lv_room h8) hdg hC) hS (fun _ _ h => h) (fun _ h => h) (fun r' u t H1 locs1 ht hvm hw hB hz1 hk1 hS1 => ?_)
  obtain ⟨rfl, rfl⟩ := hw
  rw [ht] at hB
  exact kk H1 locs1 hB hS1
def f_yX1_getIn (M : Mem) (i1 : Nat) (o2 : Option Nat) (x3 : Int32) : Option Mem := om o2 ((some M)) (fun i2 => (if (M 8 i2 2) = (-4) then ob1 (f_yX7_letIn M i2 (nI i1) x3) (fun M8 => ob1 (f_yX5_become M8 i1 2 (-4) (-4)) (fun M10 => (some M10))) else ob1 (f_yX5_become M i1 3 (nI i2) (-4)) (fun M3 => lt1 (mp M3 6 i1 13 x3) (fun M4 => ob1 (f_yX1_stamp M4 i1) (fun M6 => (some M6))))))
set_option maxRecDepth 100000 in
set_option maxHeartbeats 4000000 in
theorem c_yX1_getIn (l : Launch) (E : Lay) (ad : Nat → Nat → Nat) (M N : Mem) (i1 : Nat) (o2 : Option Nat) (x3 : Int32) (w1 : i1 < 6) (w2 : om o2 True (fun i => i < (M 60 0 1).toNatClampNeg)) (Mr : Mem) (hf : f_yX1_getIn M i1 o2 x3 = some Mr) : Met l yX1_getIn (Cond.code yX1_getIn cX1_getIn 4 none :: TB) (rmm 1 23) (va_Pc [.ref (ad 2 0), .ref (ad 6 i1), va_rf (o2.map (ad 8)), .int x3] (PB E ad (M, N))) (Qv E ad (Mr, N)) 0 0 (ow E) := by
  refine Met.ofW (cc := cX1_getIn) (maxL := 4) (ret := none) (by decide) rfl ?_
  intro p e s m args below meth c s₁ B hml hv
  obtain ⟨rfl, hW, hK, hZ⟩ := hv
  have hT : ∀ w ∈ TB, w.before _ s = true := fun w h => atoms_spec (ws := (Cond.code yX1_getIn cX1_getIn 4 none :: TB)) B.pre w (List.mem_cons_of_mem _ h)
  have X : CX p s m _ meth c cX1_getIn 4 none RX1 := ⟨B.exec, B.bytes, hml, findClass_of_methodNamed B.named, hT, B.returns, B.notSynchronized⟩
  obtain ⟨hx, hb, hml, hown, hT, hr, hlk⟩ := id X
  have hS : va_S (ow E) s.heap s.heap [] := va_S.rf
  unfold f_yX1_getIn at hf
  rcases o2 with _ | i2
  · rw [om_n] at hf
    refine W.eq (g2 := entryFrame m ([.ref (ad 2 0), .ref (ad 6 i1), .null, .int x3] : List Value).toArray 4) rfl ?_
    have hl := lv_entry ([.ref (ad 2 0), .ref (ad 6 i1), .null, .int x3]) (n := 4) (Nat.le_of_ble_eq_true rfl)
    rw [lg_entry_eq]
    generalize (lg_sl ([.ref (ad 2 0), .ref (ad 6 i1), .null, .int x3]) ++ List.replicate (4 - (lg_sl ([.ref (ad 2 0), .ref (ad 6 i1), .null, .int x3])).length) Slot.unset).toArray = ls at hl ⊢
    have hl : lv_has ls 4 [(0, .ref (ad 2 0)), (1, .ref (ad 6 i1)), (2, .null), (3, .int x3)] := hl
    refine lv_aload_nN hx hb dX1_getIn_0 rfl (lv_at hl 2 rfl) ?_
    refine lv_ifnonnullN hx hb dX1_getIn_1 ?_
    obtain rfl := sp1 hf
    exact e_v ⟨hx, hb, hr, hlk⟩ hW hS dX1_getIn_4
  · rw [om_s] at hf
    refine W.eq (g2 := entryFrame m ([.ref (ad 2 0), .ref (ad 6 i1), .ref (ad 8 i2), .int x3] : List Value).toArray 4) rfl ?_
    have hl := lv_entry ([.ref (ad 2 0), .ref (ad 6 i1), .ref (ad 8 i2), .int x3]) (n := 4) (Nat.le_of_ble_eq_true rfl)
    rw [lg_entry_eq]
    generalize (lg_sl ([.ref (ad 2 0), .ref (ad 6 i1), .ref (ad 8 i2), .int x3]) ++ List.replicate (4 - (lg_sl ([.ref (ad 2 0), .ref (ad 6 i1), .ref (ad 8 i2), .int x3])).length) Slot.unset).toArray = ls at hl ⊢
    have hl : lv_has ls 4 [(0, .ref (ad 2 0)), (1, .ref (ad 6 i1)), (2, .ref (ad 8 i2)), (3, .int x3)] := hl
    refine lv_aload_n hx hb dX1_getIn_0 rfl (lv_at hl 2 rfl) ?_
    refine lv_ifnonnull (tgt := 5) hx hb dX1_getIn_1 (by decide) ?_
    refine lv_aload_n hx hb dX1_getIn_5 rfl (lv_at hl 2 rfl) ?_
    refine g_7_4 X hK hW w2 flRX1_81 dX1_getIn_6 ?_
    refine lv_bipush (v := -4) hx hb dX1_getIn_9 (by decide) ?_
    refine lv_icmp_ne (tgt := 33) hx hb dX1_getIn_11 (by decide) (fun c1 => ?_) (fun c1 => ?_)
    · rw [if_neg c1] at hf
      refine lv_aload_n hx hb dX1_getIn_33 rfl (lv_at hl 1 rfl) ?_
      refine lv_iconst (v := 3) hx hb dX1_getIn_34 (by decide) ?_
      refine lv_aload_n hx hb dX1_getIn_35 rfl (lv_at hl 2 rfl) ?_
      refine g_7_0 X hK hW w2 flRX1_93 dX1_getIn_36 ?_
      refine lv_bipush (v := -4) hx hb dX1_getIn_39 (by decide) ?_
      obtain ⟨M3, h2, hf⟩ := ob1_some hf
      refine k_yX5_become X hK hZ hW hS hl.1 w1 h2 mlRX1_65 ⟨Nat.le_of_ble_eq_true rfl, Nat.le_of_ble_eq_true rfl⟩ ⟨Nat.le_of_ble_eq_true rfl, Nat.le_of_ble_eq_true rfl⟩ (Nat.le_of_ble_eq_true rfl) dX1_getIn_41 (fun H locs hW hS => ?_)
      refine lv_aload_n hx hb dX1_getIn_44 rfl (lv_at hl 1 rfl) ?_
      refine lv_iload_n hx hb dX1_getIn_45 rfl (lv_at hl 3 rfl) ?_
      obtain ⟨M4, hM4, hf⟩ := lt1_some hf
      refine p_5_17 X hK hW hS w1 hM4 flRX1_58 dX1_getIn_46 (fun H locs hW hS => ?_)
      refine lv_aload_n hx hb dX1_getIn_49 rfl (lv_at hl 0 rfl) ?_
      refine lv_aload_n hx hb dX1_getIn_50 rfl (lv_at hl 1 rfl) ?_
      obtain ⟨M6, h5, hf⟩ := ob1_some hf
      refine k_yX1_stamp X hK hZ hW hS hl.1 w1 h5 mlRX1_94 ⟨Nat.le_of_ble_eq_true rfl, Nat.le_of_ble_eq_true rfl⟩ ⟨Nat.le_of_ble_eq_true rfl, Nat.le_of_ble_eq_true rfl⟩ (Nat.le_of_ble_eq_true rfl) dX1_getIn_51 (fun H locs hW hS => ?_)
      obtain rfl := sp1 hf
      exact e_v ⟨hx, hb, hr, hlk⟩ hW hS dX1_getIn_54
    · rw [if_pos c1] at hf
      refine lv_aload_n hx hb dX1_getIn_14 rfl (lv_at hl 2 rfl) ?_
      refine lv_aload_n hx hb dX1_getIn_15 rfl (lv_at hl 1 rfl) ?_
      refine g_5_0 X hK hW w1 flRX1_86 dX1_getIn_16 ?_
      refine lv_iload_n hx hb dX1_getIn_19 rfl (lv_at hl 3 rfl) ?_
      obtain ⟨M8, h7, hf⟩ := ob1_some hf
      refine k_yX7_letIn X hK hZ hW hS hl.1 w2 h7 mlRX1_89 ⟨Nat.le_of_ble_eq_true rfl, Nat.le_of_ble_eq_true rfl⟩ ⟨Nat.le_of_ble_eq_true rfl, Nat.le_of_ble_eq_true rfl⟩ (Nat.le_of_ble_eq_true rfl) dX1_getIn_20 (fun H locs hW hS => ?_)
      refine lv_aload_n hx hb dX1_getIn_23 rfl (lv_at hl 1 rfl) ?_
      refine lv_iconst (v := 2) hx hb dX1_getIn_24 (by decide) ?_
      refine lv_bipush (v := -4) hx hb dX1_getIn_25 (by decide) ?_
      refine lv_bipush (v := -4) hx hb dX1_getIn_27 (by decide) ?_
      obtain ⟨M10, h9, hf⟩ := ob1_some hf
      refine k_yX5_become X hK hZ hW hS hl.1 w1 h9 mlRX1_65 ⟨Nat.le_of_ble_eq_true rfl, Nat.le_of_ble_eq_true rfl⟩ ⟨Nat.le_of_ble_eq_true rfl, Nat.le_of_ble_eq_true rfl⟩ (Nat.le_of_ble_eq_true rfl) dX1_getIn_29 (fun H locs hW hS => ?_)
      obtain rfl := sp1 hf
      exact e_v ⟨hx, hb, hr, hlk⟩ hW hS dX1_getIn_32
set_option maxRecDepth 100000 in
set_option maxHeartbeats 4000000 in
theorem k_yX1_getIn {p : Program} {l : Launch} {e : Env} {R : Room} {s : State} {m : MethodId} {args : Array Value} {below : List Frame} {meth : Method} {c : Code} {H : Heap} {locs : List Loc} {cells slots : Nat} {Q : State → Prop} {cc : ByteArray} {pc nL index : Nat} {ret : Option FieldType} {own : String} {ls : Array Slot} {rest : List Value} {E : Lay} {ad : Nat → Nat → Nat} {M N : Mem} (X : CX p s m args meth c cc nL ret own) (hK : KK E s) (hZ : ZZ E s) (hW : WD E ad (M, N) H) (hS : va_S (ow E) s.heap H locs) (hsz : ls.size = nL) {i1 : Nat} {x3 : Int32} (w1 : i1 < 6) (o2 : Option Nat) (w2 : om o2 True (fun i => i < (M 60 0 1).toNatClampNeg)) {Mr : Mem} (hf : f_yX1_getIn M i1 o2 x3 = some Mr) (hn : Cond.methodLink own index yX1_getIn ∈ TB) (hR : 1 + 1 ≤ R.frames ∧ 8 + (4 + 11) + 23 ≤ R.locals) (hC : cells ≤ R.cells ∧ slots ≤ R.slots) (h8 : (rest.map fun v => v.category).sum ≤ 8) (hdg : decode cc pc = .ok (.invokevirtual index, 3)) (kk : ∀ (H1 : Heap) (locs1 : List Loc), WD E ad (Mr, N) H1 → va_S (ow E) s.heap H1 locs1 → W p l e R s m args below meth c H1 locs1 cells slots Q (F0 m (pc + 3) ls (rest))) : W p l e R s m args below meth c H locs cells slots Q (F0 m pc ls (.int x3 :: va_rf (o2.map (ad 8)) :: .ref (ad 6 i1) :: .ref (ad 2 0) :: rest)) := by
  refine va_callv (va_runV (C := RX1) (As := [.ref (ad 6 i1), va_rf (o2.map (ad 8)), .int x3]) (rest := rest) ⟨X.1, X.2.1, X.2.2.1, X.2.2.2.1, X.2.2.2.2.1⟩ (c_yX1_getIn l E ad M N i1 o2 x3 w1 w2 Mr hf) (cwV 3 X.2.2.2.2.1 (gV hn im_yX1_getIn se_yX1_getIn iniRX1 cd_yX1_getIn) rfl rfl rfl (by decide +kernel) hR) ⟨fun a U g mk q => ⟨q.1, q.2.calling⟩, va_recv hK.1 (hW.at (c := 2) (i := 0) Nat.zero_lt_one rfl) (ci := 1) (q0 := 0) rfl rfl, fun U hU hw => ⟨rfl, PB.at hW hK hZ hS hU hw⟩⟩ rfl rfl hsz rfl (lv_room h8) hdg hC) hS (fun _ _ h => h) (fun _ h => h) (fun u t H1 locs1 ht hvm hw hB hz1 hk1 hS1 => ?_)
  subst hw
  rw [ht] at hB
  exact kk H1 locs1 hB hS1
def f_yX1_vacate (M : Mem) (i1 : Nat) : Option Mem := ob1 (f_yX7_letIn M i1 (-4) 0) (fun M2 => gd (i1 < (M2 60 0 1).toNatClampNeg) (ob1 (f_yX1_next M2 3 (nI i1)) (fun r5 => om r5 ((some M2)) (fun j6 => gd (j6 < 6) (ob1 (f_yX7_letIn M2 i1 (nI j6) (M2 6 j6 13)) (fun M9 => ob1 (f_yX5_become M9 j6 2 (-4) (-4)) (fun M11 => (some M11))))))))
set_option maxRecDepth 100000 in
set_option maxHeartbeats 4000000 in
theorem c_yX1_vacate (l : Launch) (E : Lay) (ad : Nat → Nat → Nat) (M N : Mem) (i1 : Nat) (w1 : i1 < (M 60 0 1).toNatClampNeg) (Mr : Mem) (hf : f_yX1_vacate M i1 = some Mr) : Met l yX1_vacate (Cond.code yX1_vacate cX1_vacate 3 none :: TB) (rmm 1 28) (va_Pc [.ref (ad 2 0), .ref (ad 8 i1)] (PB E ad (M, N))) (Qv E ad (Mr, N)) 0 0 (ow E) := by
  refine Met.ofW (cc := cX1_vacate) (maxL := 3) (ret := none) (by decide) rfl ?_
  intro p e s m args below meth c s₁ B hml hv
  obtain ⟨rfl, hW, hK, hZ⟩ := hv
  have hT : ∀ w ∈ TB, w.before _ s = true := fun w h => atoms_spec (ws := (Cond.code yX1_vacate cX1_vacate 3 none :: TB)) B.pre w (List.mem_cons_of_mem _ h)
  have X : CX p s m _ meth c cX1_vacate 3 none RX1 := ⟨B.exec, B.bytes, hml, findClass_of_methodNamed B.named, hT, B.returns, B.notSynchronized⟩
  obtain ⟨hx, hb, hml, hown, hT, hr, hlk⟩ := id X
  have hS : va_S (ow E) s.heap s.heap [] := va_S.rf
  have hl := lv_entry ([.ref (ad 2 0), .ref (ad 8 i1)]) (n := 3) (Nat.le_of_ble_eq_true rfl)
  rw [lg_entry_eq]
  generalize (lg_sl ([.ref (ad 2 0), .ref (ad 8 i1)]) ++ List.replicate (3 - (lg_sl ([.ref (ad 2 0), .ref (ad 8 i1)])).length) Slot.unset).toArray = ls at hl ⊢
  have hl : lv_has ls 3 [(0, .ref (ad 2 0)), (1, .ref (ad 8 i1))] := hl
  unfold f_yX1_vacate at hf
  refine lv_aload_n hx hb dX1_vacate_0 rfl (lv_at hl 1 rfl) ?_
  refine lv_bipush (v := -4) hx hb dX1_vacate_1 (by decide) ?_
  refine lv_iconst (v := 0) hx hb dX1_vacate_3 (by decide) ?_
  obtain ⟨M2, h1, hf⟩ := ob1_some hf
  refine k_yX7_letIn X hK hZ hW hS hl.1 w1 h1 mlRX1_89 ⟨Nat.le_of_ble_eq_true rfl, Nat.le_of_ble_eq_true rfl⟩ ⟨Nat.le_of_ble_eq_true rfl, Nat.le_of_ble_eq_true rfl⟩ (Nat.le_of_ble_eq_true rfl) dX1_vacate_4 (fun H locs hW hS => ?_)
  refine lv_aload_n hx hb dX1_vacate_7 rfl (lv_at hl 0 rfl) ?_
  refine lv_iconst (v := 3) hx hb dX1_vacate_8 (by decide) ?_
  refine lv_aload_n hx hb dX1_vacate_9 rfl (lv_at hl 1 rfl) ?_
  obtain ⟨v3, hf⟩ := gd_some hf
  refine g_7_0 X hK hW v3 flRX1_93 dX1_vacate_10 ?_
  obtain ⟨r5, h4, hf⟩ := ob1_some hf
  rcases r5 with _ | j6
  · rw [om_n] at hf
    refine k_yX1_nextn X hK hZ hW hS hl.1 h4 mlRX1_103 ⟨Nat.le_of_ble_eq_true rfl, Nat.le_of_ble_eq_true rfl⟩ ⟨Nat.le_of_ble_eq_true rfl, Nat.le_of_ble_eq_true rfl⟩ (Nat.le_of_ble_eq_true rfl) dX1_vacate_13 (fun H locs hW hS => ?_)
    refine lv_astore_nN (lv' := [(2, .null), (0, .ref (ad 2 0)), (1, .ref (ad 8 i1))]) hx hb dX1_vacate_16 rfl hl (by decide) rfl (fun ls hl => ?_)
    refine lv_aload_nN hx hb dX1_vacate_17 rfl (lv_at hl 0 rfl) ?_
    refine lv_ifnullN (tgt := 42) hx hb dX1_vacate_18 (by decide) ?_
    obtain rfl := sp1 hf
    exact e_v ⟨hx, hb, hr, hlk⟩ hW hS dX1_vacate_42
  · rw [om_s] at hf
    refine k_yX1_nexts X hK hZ hW hS hl.1 h4 mlRX1_103 ⟨Nat.le_of_ble_eq_true rfl, Nat.le_of_ble_eq_true rfl⟩ ⟨Nat.le_of_ble_eq_true rfl, Nat.le_of_ble_eq_true rfl⟩ (Nat.le_of_ble_eq_true rfl) dX1_vacate_13 (fun H locs hW hS => ?_)
    refine lv_astore_n (lv' := [(2, .ref (ad 6 j6)), (0, .ref (ad 2 0)), (1, .ref (ad 8 i1))]) hx hb dX1_vacate_16 rfl hl (by decide) rfl (fun ls hl => ?_)
    refine lv_aload_n hx hb dX1_vacate_17 rfl (lv_at hl 0 rfl) ?_
    refine lv_ifnull hx hb dX1_vacate_18 ?_
    refine lv_aload_n hx hb dX1_vacate_21 rfl (lv_at hl 2 rfl) ?_
    refine lv_aload_n hx hb dX1_vacate_22 rfl (lv_at hl 0 rfl) ?_
    obtain ⟨v7, hf⟩ := gd_some hf
    refine g_5_0 X hK hW v7 flRX1_86 dX1_vacate_23 ?_
    refine lv_aload_n hx hb dX1_vacate_26 rfl (lv_at hl 0 rfl) ?_
    refine g_5_17 X hK hW v7 flRX1_58 dX1_vacate_27 ?_
    obtain ⟨M9, h8, hf⟩ := ob1_some hf
    refine k_yX7_letIn X hK hZ hW hS hl.1 v3 h8 mlRX1_89 ⟨Nat.le_of_ble_eq_true rfl, Nat.le_of_ble_eq_true rfl⟩ ⟨Nat.le_of_ble_eq_true rfl, Nat.le_of_ble_eq_true rfl⟩ (Nat.le_of_ble_eq_true rfl) dX1_vacate_30 (fun H locs hW hS => ?_)
    refine lv_aload_n hx hb dX1_vacate_33 rfl (lv_at hl 0 rfl) ?_
    refine lv_iconst (v := 2) hx hb dX1_vacate_34 (by decide) ?_
    refine lv_bipush (v := -4) hx hb dX1_vacate_35 (by decide) ?_
    refine lv_bipush (v := -4) hx hb dX1_vacate_37 (by decide) ?_
    obtain ⟨M11, h10, hf⟩ := ob1_some hf
    refine k_yX5_become X hK hZ hW hS hl.1 v7 h10 mlRX1_65 ⟨Nat.le_of_ble_eq_true rfl, Nat.le_of_ble_eq_true rfl⟩ ⟨Nat.le_of_ble_eq_true rfl, Nat.le_of_ble_eq_true rfl⟩ (Nat.le_of_ble_eq_true rfl) dX1_vacate_39 (fun H locs hW hS => ?_)
    obtain rfl := sp1 hf
    exact e_v ⟨hx, hb, hr, hlk⟩ hW hS dX1_vacate_42
set_option maxRecDepth 100000 in
set_option maxHeartbeats 4000000 in
theorem k_yX1_vacate {p : Program} {l : Launch} {e : Env} {R : Room} {s : State} {m : MethodId} {args : Array Value} {below : List Frame} {meth : Method} {c : Code} {H : Heap} {locs : List Loc} {cells slots : Nat} {Q : State → Prop} {cc : ByteArray} {pc nL index : Nat} {ret : Option FieldType} {own : String} {ls : Array Slot} {rest : List Value} {E : Lay} {ad : Nat → Nat → Nat} {M N : Mem} (X : CX p s m args meth c cc nL ret own) (hK : KK E s) (hZ : ZZ E s) (hW : WD E ad (M, N) H) (hS : va_S (ow E) s.heap H locs) (hsz : ls.size = nL) {i1 : Nat} (w1 : i1 < (M 60 0 1).toNatClampNeg) {Mr : Mem} (hf : f_yX1_vacate M i1 = some Mr) (hn : Cond.methodLink own index yX1_vacate ∈ TB) (hR : 1 + 1 ≤ R.frames ∧ 8 + (3 + 11) + 28 ≤ R.locals) (hC : cells ≤ R.cells ∧ slots ≤ R.slots) (h8 : (rest.map fun v => v.category).sum ≤ 8) (hdg : decode cc pc = .ok (.invokevirtual index, 3)) (kk : ∀ (H1 : Heap) (locs1 : List Loc), WD E ad (Mr, N) H1 → va_S (ow E) s.heap H1 locs1 → W p l e R s m args below meth c H1 locs1 cells slots Q (F0 m (pc + 3) ls (rest))) : W p l e R s m args below meth c H locs cells slots Q (F0 m pc ls (.ref (ad 8 i1) :: .ref (ad 2 0) :: rest)) := by
  refine va_callv (va_runV (C := RX1) (As := [.ref (ad 8 i1)]) (rest := rest) ⟨X.1, X.2.1, X.2.2.1, X.2.2.2.1, X.2.2.2.2.1⟩ (c_yX1_vacate l E ad M N i1 w1 Mr hf) (cwV 1 X.2.2.2.2.1 (gV hn im_yX1_vacate se_yX1_vacate iniRX1 cd_yX1_vacate) rfl rfl rfl (by decide +kernel) hR) ⟨fun a U g mk q => ⟨q.1, q.2.calling⟩, va_recv hK.1 (hW.at (c := 2) (i := 0) Nat.zero_lt_one rfl) (ci := 1) (q0 := 0) rfl rfl, fun U hU hw => ⟨rfl, PB.at hW hK hZ hS hU hw⟩⟩ rfl rfl hsz rfl (lv_room h8) hdg hC) hS (fun _ _ h => h) (fun _ h => h) (fun u t H1 locs1 ht hvm hw hB hz1 hk1 hS1 => ?_)
  subst hw
  rw [ht] at hB
  exact kk H1 locs1 hB hS1
def f_yX1_await (M : Mem) (i1 : Nat) (i2 : Nat) (x3 : Int32) : Option Mem := lt1 (mp M 6 i1 13 (M 8 i2 3)) (fun M1 => ob1 (f_yX5_become M1 i1 4 (nI i2) x3) (fun M4 => ob1 (f_yX1_stamp M4 i1) (fun M6 => (some M6))))
set_option maxRecDepth 100000 in
set_option maxHeartbeats 4000000 in
theorem c_yX1_await (l : Launch) (E : Lay) (ad : Nat → Nat → Nat) (M N : Mem) (i1 : Nat) (i2 : Nat) (x3 : Int32) (w1 : i1 < 6) (w2 : i2 < (M 60 0 1).toNatClampNeg) (Mr : Mem) (hf : f_yX1_await M i1 i2 x3 = some Mr) : Met l yX1_await (Cond.code yX1_await cX1_await 4 none :: TB) (rmm 1 23) (va_Pc [.ref (ad 2 0), .ref (ad 6 i1), .ref (ad 8 i2), .int x3] (PB E ad (M, N))) (Qv E ad (Mr, N)) 0 0 (ow E) := by
  refine Met.ofW (cc := cX1_await) (maxL := 4) (ret := none) (by decide) rfl ?_
  intro p e s m args below meth c s₁ B hml hv
  obtain ⟨rfl, hW, hK, hZ⟩ := hv
  have hT : ∀ w ∈ TB, w.before _ s = true := fun w h => atoms_spec (ws := (Cond.code yX1_await cX1_await 4 none :: TB)) B.pre w (List.mem_cons_of_mem _ h)
  have X : CX p s m _ meth c cX1_await 4 none RX1 := ⟨B.exec, B.bytes, hml, findClass_of_methodNamed B.named, hT, B.returns, B.notSynchronized⟩
  obtain ⟨hx, hb, hml, hown, hT, hr, hlk⟩ := id X
  have hS : va_S (ow E) s.heap s.heap [] := va_S.rf
  have hl := lv_entry ([.ref (ad 2 0), .ref (ad 6 i1), .ref (ad 8 i2), .int x3]) (n := 4) (Nat.le_of_ble_eq_true rfl)
  rw [lg_entry_eq]
  generalize (lg_sl ([.ref (ad 2 0), .ref (ad 6 i1), .ref (ad 8 i2), .int x3]) ++ List.replicate (4 - (lg_sl ([.ref (ad 2 0), .ref (ad 6 i1), .ref (ad 8 i2), .int x3])).length) Slot.unset).toArray = ls at hl ⊢
  have hl : lv_has ls 4 [(0, .ref (ad 2 0)), (1, .ref (ad 6 i1)), (2, .ref (ad 8 i2)), (3, .int x3)] := hl
  unfold f_yX1_await at hf
  refine lv_aload_n hx hb dX1_await_0 rfl (lv_at hl 1 rfl) ?_
  refine lv_aload_n hx hb dX1_await_1 rfl (lv_at hl 2 rfl) ?_
  refine g_7_5 X hK hW w2 flRX1_107 dX1_await_2 ?_
  obtain ⟨M1, hM1, hf⟩ := lt1_some hf
  have v2 : i2 < (M1 60 0 1).toNatClampNeg := by rw [hM1, mp_ne _ _ (fun q => absurd q.1 (by decide))]; exact w2
  refine p_5_17 X hK hW hS w1 hM1 flRX1_58 dX1_await_5 (fun H locs hW hS => ?_)
  refine lv_aload_n hx hb dX1_await_8 rfl (lv_at hl 1 rfl) ?_
  refine lv_iconst (v := 4) hx hb dX1_await_9 (by decide) ?_
  refine lv_aload_n hx hb dX1_await_10 rfl (lv_at hl 2 rfl) ?_
  refine g_7_0 X hK hW v2 flRX1_93 dX1_await_11 ?_
  refine lv_iload_n hx hb dX1_await_14 rfl (lv_at hl 3 rfl) ?_
  obtain ⟨M4, h3, hf⟩ := ob1_some hf
  refine k_yX5_become X hK hZ hW hS hl.1 w1 h3 mlRX1_65 ⟨Nat.le_of_ble_eq_true rfl, Nat.le_of_ble_eq_true rfl⟩ ⟨Nat.le_of_ble_eq_true rfl, Nat.le_of_ble_eq_true rfl⟩ (Nat.le_of_ble_eq_true rfl) dX1_await_15 (fun H locs hW hS => ?_)
  refine lv_aload_n hx hb dX1_await_18 rfl (lv_at hl 0 rfl) ?_
  refine lv_aload_n hx hb dX1_await_19 rfl (lv_at hl 1 rfl) ?_
  obtain ⟨M6, h5, hf⟩ := ob1_some hf
  refine k_yX1_stamp X hK hZ hW hS hl.1 w1 h5 mlRX1_94 ⟨Nat.le_of_ble_eq_true rfl, Nat.le_of_ble_eq_true rfl⟩ ⟨Nat.le_of_ble_eq_true rfl, Nat.le_of_ble_eq_true rfl⟩ (Nat.le_of_ble_eq_true rfl) dX1_await_20 (fun H locs hW hS => ?_)
  obtain rfl := sp1 hf
  exact e_v ⟨hx, hb, hr, hlk⟩ hW hS dX1_await_23
set_option maxRecDepth 100000 in
set_option maxHeartbeats 4000000 in
theorem k_yX1_await {p : Program} {l : Launch} {e : Env} {R : Room} {s : State} {m : MethodId} {args : Array Value} {below : List Frame} {meth : Method} {c : Code} {H : Heap} {locs : List Loc} {cells slots : Nat} {Q : State → Prop} {cc : ByteArray} {pc nL index : Nat} {ret : Option FieldType} {own : String} {ls : Array Slot} {rest : List Value} {E : Lay} {ad : Nat → Nat → Nat} {M N : Mem} (X : CX p s m args meth c cc nL ret own) (hK : KK E s) (hZ : ZZ E s) (hW : WD E ad (M, N) H) (hS : va_S (ow E) s.heap H locs) (hsz : ls.size = nL) {i1 : Nat} {i2 : Nat} {x3 : Int32} (w1 : i1 < 6) (w2 : i2 < (M 60 0 1).toNatClampNeg) {Mr : Mem} (hf : f_yX1_await M i1 i2 x3 = some Mr) (hn : Cond.methodLink own index yX1_await ∈ TB) (hR : 1 + 1 ≤ R.frames ∧ 8 + (4 + 11) + 23 ≤ R.locals) (hC : cells ≤ R.cells ∧ slots ≤ R.slots) (h8 : (rest.map fun v => v.category).sum ≤ 8) (hdg : decode cc pc = .ok (.invokevirtual index, 3)) (kk : ∀ (H1 : Heap) (locs1 : List Loc), WD E ad (Mr, N) H1 → va_S (ow E) s.heap H1 locs1 → W p l e R s m args below meth c H1 locs1 cells slots Q (F0 m (pc + 3) ls (rest))) : W p l e R s m args below meth c H locs cells slots Q (F0 m pc ls (.int x3 :: .ref (ad 8 i2) :: .ref (ad 6 i1) :: .ref (ad 2 0) :: rest)) := by
  refine va_callv (va_runV (C := RX1) (As := [.ref (ad 6 i1), .ref (ad 8 i2), .int x3]) (rest := rest) ⟨X.1, X.2.1, X.2.2.1, X.2.2.2.1, X.2.2.2.2.1⟩ (c_yX1_await l E ad M N i1 i2 x3 w1 w2 Mr hf) (cwV 3 X.2.2.2.2.1 (gV hn im_yX1_await se_yX1_await iniRX1 cd_yX1_await) rfl rfl rfl (by decide +kernel) hR) ⟨fun a U g mk q => ⟨q.1, q.2.calling⟩, va_recv hK.1 (hW.at (c := 2) (i := 0) Nat.zero_lt_one rfl) (ci := 1) (q0 := 0) rfl rfl, fun U hU hw => ⟨rfl, PB.at hW hK hZ hS hU hw⟩⟩ rfl rfl hsz rfl (lv_room h8) hdg hC) hS (fun _ _ h => h) (fun _ h => h) (fun u t H1 locs1 ht hvm hw hB hz1 hk1 hS1 => ?_)
  subst hw
  rw [ht] at hB
  exact kk H1 locs1 hB hS1
def f_yX1_tellNext (M : Mem) (i1 : Nat) : Option Mem := ob1 (f_yX1_next M 4 (nI i1)) (fun r2 => om r2 ((some M)) (fun j3 => gd (j3 < 6) (ob1 (f_yX1_getIn M j3 (some i1) (M 6 j3 13)) (fun M6 => (some M6)))))
set_option maxRecDepth 100000 in
set_option maxHeartbeats 4000000 in
theorem c_yX1_tellNext (l : Launch) (E : Lay) (ad : Nat → Nat → Nat) (M N : Mem) (i1 : Nat) (w1 : i1 < (M 60 0 1).toNatClampNeg) (Mr : Mem) (hf : f_yX1_tellNext M i1 = some Mr) : Met l yX1_tellNext (Cond.code yX1_tellNext cX1_tellNext 3 none :: TB) (rmm 2 46) (va_Pc [.ref (ad 2 0), .ref (ad 8 i1)] (PB E ad (M, N))) (Qv E ad (Mr, N)) 0 0 (ow E) := by
  refine Met.ofW (cc := cX1_tellNext) (maxL := 3) (ret := none) (by decide) rfl ?_
  intro p e s m args below meth c s₁ B hml hv
  obtain ⟨rfl, hW, hK, hZ⟩ := hv
  have hT : ∀ w ∈ TB, w.before _ s = true := fun w h => atoms_spec (ws := (Cond.code yX1_tellNext cX1_tellNext 3 none :: TB)) B.pre w (List.mem_cons_of_mem _ h)
  have X : CX p s m _ meth c cX1_tellNext 3 none RX1 := ⟨B.exec, B.bytes, hml, findClass_of_methodNamed B.named, hT, B.returns, B.notSynchronized⟩
  obtain ⟨hx, hb, hml, hown, hT, hr, hlk⟩ := id X
  have hS : va_S (ow E) s.heap s.heap [] := va_S.rf
  have hl := lv_entry ([.ref (ad 2 0), .ref (ad 8 i1)]) (n := 3) (Nat.le_of_ble_eq_true rfl)
  rw [lg_entry_eq]
  generalize (lg_sl ([.ref (ad 2 0), .ref (ad 8 i1)]) ++ List.replicate (3 - (lg_sl ([.ref (ad 2 0), .ref (ad 8 i1)])).length) Slot.unset).toArray = ls at hl ⊢
  have hl : lv_has ls 3 [(0, .ref (ad 2 0)), (1, .ref (ad 8 i1))] := hl
  unfold f_yX1_tellNext at hf
  refine lv_aload_n hx hb dX1_tellNext_0 rfl (lv_at hl 0 rfl) ?_
  refine lv_iconst (v := 4) hx hb dX1_tellNext_1 (by decide) ?_
  refine lv_aload_n hx hb dX1_tellNext_2 rfl (lv_at hl 1 rfl) ?_
  refine g_7_0 X hK hW w1 flRX1_93 dX1_tellNext_3 ?_
  obtain ⟨r2, h1, hf⟩ := ob1_some hf
  rcases r2 with _ | j3
  · rw [om_n] at hf
    refine k_yX1_nextn X hK hZ hW hS hl.1 h1 mlRX1_103 ⟨Nat.le_of_ble_eq_true rfl, Nat.le_of_ble_eq_true rfl⟩ ⟨Nat.le_of_ble_eq_true rfl, Nat.le_of_ble_eq_true rfl⟩ (Nat.le_of_ble_eq_true rfl) dX1_tellNext_6 (fun H locs hW hS => ?_)
    refine lv_astore_nN (lv' := [(2, .null), (0, .ref (ad 2 0)), (1, .ref (ad 8 i1))]) hx hb dX1_tellNext_9 rfl hl (by decide) rfl (fun ls hl => ?_)
    refine lv_aload_nN hx hb dX1_tellNext_10 rfl (lv_at hl 0 rfl) ?_
    refine lv_ifnullN (tgt := 24) hx hb dX1_tellNext_11 (by decide) ?_
    obtain rfl := sp1 hf
    exact e_v ⟨hx, hb, hr, hlk⟩ hW hS dX1_tellNext_24
  · rw [om_s] at hf
    refine k_yX1_nexts X hK hZ hW hS hl.1 h1 mlRX1_103 ⟨Nat.le_of_ble_eq_true rfl, Nat.le_of_ble_eq_true rfl⟩ ⟨Nat.le_of_ble_eq_true rfl, Nat.le_of_ble_eq_true rfl⟩ (Nat.le_of_ble_eq_true rfl) dX1_tellNext_6 (fun H locs hW hS => ?_)
    refine lv_astore_n (lv' := [(2, .ref (ad 6 j3)), (0, .ref (ad 2 0)), (1, .ref (ad 8 i1))]) hx hb dX1_tellNext_9 rfl hl (by decide) rfl (fun ls hl => ?_)
    refine lv_aload_n hx hb dX1_tellNext_10 rfl (lv_at hl 0 rfl) ?_
    refine lv_ifnull hx hb dX1_tellNext_11 ?_
    refine lv_aload_n hx hb dX1_tellNext_14 rfl (lv_at hl 1 rfl) ?_
    refine lv_aload_n hx hb dX1_tellNext_15 rfl (lv_at hl 0 rfl) ?_
    refine lv_aload_n hx hb dX1_tellNext_16 rfl (lv_at hl 2 rfl) ?_
    refine lv_aload_n hx hb dX1_tellNext_17 rfl (lv_at hl 0 rfl) ?_
    obtain ⟨v4, hf⟩ := gd_some hf
    refine g_5_17 X hK hW v4 flRX1_58 dX1_tellNext_18 ?_
    obtain ⟨M6, h5, hf⟩ := ob1_some hf
    refine k_yX1_getIn X hK hZ hW hS hl.1 v4 (some i1) w1 h5 mlRX1_61 ⟨Nat.le_of_ble_eq_true rfl, Nat.le_of_ble_eq_true rfl⟩ ⟨Nat.le_of_ble_eq_true rfl, Nat.le_of_ble_eq_true rfl⟩ (Nat.le_of_ble_eq_true rfl) dX1_tellNext_21 (fun H locs hW hS => ?_)
    obtain rfl := sp1 hf
    exact e_v ⟨hx, hb, hr, hlk⟩ hW hS dX1_tellNext_24
set_option maxRecDepth 100000 in
set_option maxHeartbeats 4000000 in
theorem k_yX1_tellNext {p : Program} {l : Launch} {e : Env} {R : Room} {s : State} {m : MethodId} {args : Array Value} {below : List Frame} {meth : Method} {c : Code} {H : Heap} {locs : List Loc} {cells slots : Nat} {Q : State → Prop} {cc : ByteArray} {pc nL index : Nat} {ret : Option FieldType} {own : String} {ls : Array Slot} {rest : List Value} {E : Lay} {ad : Nat → Nat → Nat} {M N : Mem} (X : CX p s m args meth c cc nL ret own) (hK : KK E s) (hZ : ZZ E s) (hW : WD E ad (M, N) H) (hS : va_S (ow E) s.heap H locs) (hsz : ls.size = nL) {i1 : Nat} (w1 : i1 < (M 60 0 1).toNatClampNeg) {Mr : Mem} (hf : f_yX1_tellNext M i1 = some Mr) (hn : Cond.methodLink own index yX1_tellNext ∈ TB) (hR : 2 + 1 ≤ R.frames ∧ 8 + (3 + 11) + 46 ≤ R.locals) (hC : cells ≤ R.cells ∧ slots ≤ R.slots) (h8 : (rest.map fun v => v.category).sum ≤ 8) (hdg : decode cc pc = .ok (.invokevirtual index, 3)) (kk : ∀ (H1 : Heap) (locs1 : List Loc), WD E ad (Mr, N) H1 → va_S (ow E) s.heap H1 locs1 → W p l e R s m args below meth c H1 locs1 cells slots Q (F0 m (pc + 3) ls (rest))) : W p l e R s m args below meth c H locs cells slots Q (F0 m pc ls (.ref (ad 8 i1) :: .ref (ad 2 0) :: rest)) := by
  refine va_callv (va_runV (C := RX1) (As := [.ref (ad 8 i1)]) (rest := rest) ⟨X.1, X.2.1, X.2.2.1, X.2.2.2.1, X.2.2.2.2.1⟩ (c_yX1_tellNext l E ad M N i1 w1 Mr hf) (cwV 1 X.2.2.2.2.1 (gV hn im_yX1_tellNext se_yX1_tellNext iniRX1 cd_yX1_tellNext) rfl rfl rfl (by decide +kernel) hR) ⟨fun a U g mk q => ⟨q.1, q.2.calling⟩, va_recv hK.1 (hW.at (c := 2) (i := 0) Nat.zero_lt_one rfl) (ci := 1) (q0 := 0) rfl rfl, fun U hU hw => ⟨rfl, PB.at hW hK hZ hS hU hw⟩⟩ rfl rfl hsz rfl (lv_room h8) hdg hC) hS (fun _ _ h => h) (fun _ h => h) (fun u t H1 locs1 ht hvm hw hB hz1 hk1 hS1 => ?_)
  subst hw
  rw [ht] at hB
  exact kk H1 locs1 hB hS1
def f_yX1_tellEach_L11 : Nat → Mem → Nat → Int32 → Int32 → Option Mem
  | 0, _, _, _, _ => none
  | n + 1, M0, k1, y3, y4 => (if y3 ≤ y4 then (some M0) else gd (¬ (y4 < 0 ∨ 6 ≤ y4.toNatClampNeg)) ((if (M0 6 y4.toNatClampNeg 0) = 4 then (if (M0 6 y4.toNatClampNeg 11) = (nI k1) then ob1 (f_yX1_getIn M0 y4.toNatClampNeg (some k1) (M0 6 y4.toNatClampNeg 13)) (fun M7 => gd (k1 < (M7 60 0 1).toNatClampNeg) ((f_yX1_tellEach_L11 n M7 k1 y3 (y4 + 1)))) else (f_yX1_tellEach_L11 n M0 k1 y3 (y4 + 1))) else (f_yX1_tellEach_L11 n M0 k1 y3 (y4 + 1)))))
def f_yX1_tellEach (M : Mem) (i1 : Nat) : Option Mem := (f_yX1_tellEach_L11 70 M i1 6 0)
set_option maxRecDepth 100000 in
set_option maxHeartbeats 4000000 in
theorem l_yX1_tellEach_11 (l : Launch) (E : Lay) (ad : Nat → Nat → Nat) (N : Mem) {p : Program} {e : Env} {s : State} {m : MethodId} {args : Array Value} {below : List Frame} {meth : Method} {c : Code} (X : CX p s m args meth c cX1_tellEach 6 none RX1) (hK : KK E s) (hZ : ZZ E s) : ∀ (n : Nat) (M0 : Mem) (k1 : Nat) (y3 : Int32) (y4 : Int32) (Mr : Mem) (hf : f_yX1_tellEach_L11 n M0 k1 y3 y4 = some Mr) (w1 : k1 < (M0 60 0 1).toNatClampNeg) (H : Heap) (locs : List Loc) (ls : Array Slot), WD E ad (M0, N) H → va_S (ow E) s.heap H locs → lv_has ls 6 [(0, .ref (ad 2 0)), (1, .ref (ad 8 k1)), (2, .ref (ad 10 0)), (3, .int y3), (4, .int y4)] → W p l e (rmm 2 46) s m args below meth c H locs 0 0 (MQ below (Qv E ad (Mr, N)) args s 0 0 (ow E)) (F0 m 11 ls []) := by
  obtain ⟨hx, hb, hml, hown, hT, hr, hlk⟩ := id X
  intro n
  induction n with
  | zero =>
    intro M0 k1 y3 y4 Mr hf
    rw [f_yX1_tellEach_L11] at hf
    cases hf
  | succ n ih =>
    intro M0 k1 y3 y4 Mr hf w1 H locs ls hW hS hl
    rw [f_yX1_tellEach_L11] at hf
    refine lv_iload hx hb dX1_tellEach_11 (lv_at hl 4 rfl) ?_
    refine lv_iload_n hx hb dX1_tellEach_13 rfl (lv_at hl 3 rfl) ?_
    refine lv_icmp_ge (tgt := 62) hx hb dX1_tellEach_14 (by decide) (fun c1 => ?_) (fun c1 => ?_)
    · rw [if_pos c1] at hf
      obtain rfl := sp1 hf
      exact e_v ⟨hx, hb, hr, hlk⟩ hW hS dX1_tellEach_62
    · rw [if_neg c1] at hf
      refine lv_aload_n hx hb dX1_tellEach_17 rfl (lv_at hl 2 rfl) ?_
      refine lv_iload hx hb dX1_tellEach_18 (lv_at hl 4 rfl) ?_
      obtain ⟨b2, hf⟩ := gd_some hf
      have v3 : y4.toNatClampNeg < 6 := Nat.not_le.mp fun z => b2 (Or.inr z)
      refine al_10 X hK hW b2 dX1_tellEach_20 ?_
      refine lv_astore (lv' := [(5, .ref (ad 6 y4.toNatClampNeg)), (0, .ref (ad 2 0)), (1, .ref (ad 8 k1)), (2, .ref (ad 10 0)), (3, .int y3), (4, .int y4)]) hx hb dX1_tellEach_21 hl (by decide) rfl (fun ls hl => ?_)
      refine lv_aload hx hb dX1_tellEach_23 (lv_at hl 0 rfl) ?_
      refine g_5_4 X hK hW v3 flRX1_32 dX1_tellEach_25 ?_
      refine lv_iconst (v := 4) hx hb dX1_tellEach_28 (by decide) ?_
      refine lv_icmp_ne (tgt := 56) hx hb dX1_tellEach_29 (by decide) (fun c4 => ?_) (fun c4 => ?_)
      · rw [if_neg c4] at hf
        refine lv_iinc (v := (y4 + 1)) (lv' := [(4, .int (y4 + 1)), (5, .ref (ad 6 y4.toNatClampNeg)), (0, .ref (ad 2 0)), (1, .ref (ad 8 k1)), (2, .ref (ad 10 0)), (3, .int y3)]) hx hb dX1_tellEach_56 hl (k := 5) rfl rfl (by decide) rfl (fun ls hl => ?_)
        refine lv_goto (tgt := 11) hx hb dX1_tellEach_59 (by decide) ?_
        exact ih _ _ _ _ _ hf w1 _ _ _ hW hS (lv_sub hl [2, 3, 4, 5, 0] rfl)
      · rw [if_pos c4] at hf
        refine lv_aload hx hb dX1_tellEach_32 (lv_at hl 0 rfl) ?_
        refine g_5_15 X hK hW v3 flRX1_36 dX1_tellEach_34 ?_
        refine lv_aload_n hx hb dX1_tellEach_37 rfl (lv_at hl 2 rfl) ?_
        refine g_7_0 X hK hW w1 flRX1_93 dX1_tellEach_38 ?_
        refine lv_icmp_ne (tgt := 56) hx hb dX1_tellEach_41 (by decide) (fun c5 => ?_) (fun c5 => ?_)
        · rw [if_neg c5] at hf
          refine lv_iinc (v := (y4 + 1)) (lv' := [(4, .int (y4 + 1)), (5, .ref (ad 6 y4.toNatClampNeg)), (0, .ref (ad 2 0)), (1, .ref (ad 8 k1)), (2, .ref (ad 10 0)), (3, .int y3)]) hx hb dX1_tellEach_56 hl (k := 5) rfl rfl (by decide) rfl (fun ls hl => ?_)
          refine lv_goto (tgt := 11) hx hb dX1_tellEach_59 (by decide) ?_
          exact ih _ _ _ _ _ hf w1 _ _ _ hW hS (lv_sub hl [2, 3, 4, 5, 0] rfl)
        · rw [if_pos c5] at hf
          refine lv_aload_n hx hb dX1_tellEach_44 rfl (lv_at hl 1 rfl) ?_
          refine lv_aload hx hb dX1_tellEach_45 (lv_at hl 0 rfl) ?_
          refine lv_aload_n hx hb dX1_tellEach_47 rfl (lv_at hl 2 rfl) ?_
          refine lv_aload hx hb dX1_tellEach_48 (lv_at hl 0 rfl) ?_
          refine g_5_17 X hK hW v3 flRX1_58 dX1_tellEach_50 ?_
          obtain ⟨M7, h6, hf⟩ := ob1_some hf
          refine k_yX1_getIn X hK hZ hW hS hl.1 v3 (some k1) w1 h6 mlRX1_61 ⟨Nat.le_of_ble_eq_true rfl, Nat.le_of_ble_eq_true rfl⟩ ⟨Nat.le_of_ble_eq_true rfl, Nat.le_of_ble_eq_true rfl⟩ (Nat.le_of_ble_eq_true rfl) dX1_tellEach_53 (fun H locs hW hS => ?_)
          refine lv_iinc (v := (y4 + 1)) (lv' := [(4, .int (y4 + 1)), (5, .ref (ad 6 y4.toNatClampNeg)), (0, .ref (ad 2 0)), (1, .ref (ad 8 k1)), (2, .ref (ad 10 0)), (3, .int y3)]) hx hb dX1_tellEach_56 hl (k := 5) rfl rfl (by decide) rfl (fun ls hl => ?_)
          refine lv_goto (tgt := 11) hx hb dX1_tellEach_59 (by decide) ?_
          obtain ⟨v8, hf⟩ := gd_some hf
          exact ih _ _ _ _ _ hf v8 _ _ _ hW hS (lv_sub hl [2, 3, 4, 5, 0] rfl)
set_option maxRecDepth 100000 in
set_option maxHeartbeats 4000000 in
theorem c_yX1_tellEach (l : Launch) (E : Lay) (ad : Nat → Nat → Nat) (M N : Mem) (i1 : Nat) (w1 : i1 < (M 60 0 1).toNatClampNeg) (Mr : Mem) (hf : f_yX1_tellEach M i1 = some Mr) : Met l yX1_tellEach (Cond.code yX1_tellEach cX1_tellEach 6 none :: TB) (rmm 2 46) (va_Pc [.ref (ad 2 0), .ref (ad 8 i1)] (PB E ad (M, N))) (Qv E ad (Mr, N)) 0 0 (ow E) := by
  refine Met.ofW (cc := cX1_tellEach) (maxL := 6) (ret := none) (by decide) rfl ?_
  intro p e s m args below meth c s₁ B hml hv
  obtain ⟨rfl, hW, hK, hZ⟩ := hv
  have hT : ∀ w ∈ TB, w.before _ s = true := fun w h => atoms_spec (ws := (Cond.code yX1_tellEach cX1_tellEach 6 none :: TB)) B.pre w (List.mem_cons_of_mem _ h)
  have X : CX p s m _ meth c cX1_tellEach 6 none RX1 := ⟨B.exec, B.bytes, hml, findClass_of_methodNamed B.named, hT, B.returns, B.notSynchronized⟩
  obtain ⟨hx, hb, hml, hown, hT, hr, hlk⟩ := id X
  have hS : va_S (ow E) s.heap s.heap [] := va_S.rf
  have hl := lv_entry ([.ref (ad 2 0), .ref (ad 8 i1)]) (n := 6) (Nat.le_of_ble_eq_true rfl)
  rw [lg_entry_eq]
  generalize (lg_sl ([.ref (ad 2 0), .ref (ad 8 i1)]) ++ List.replicate (6 - (lg_sl ([.ref (ad 2 0), .ref (ad 8 i1)])).length) Slot.unset).toArray = ls at hl ⊢
  have hl : lv_has ls 6 [(0, .ref (ad 2 0)), (1, .ref (ad 8 i1))] := hl
  unfold f_yX1_tellEach at hf
  refine lv_aload_n hx hb dX1_tellEach_0 rfl (lv_at hl 0 rfl) ?_
  refine g_1_1 X hK hW flRX1_11 dX1_tellEach_1 ?_
  refine lv_astore_n (lv' := [(2, .ref (ad 10 0)), (0, .ref (ad 2 0)), (1, .ref (ad 8 i1))]) hx hb dX1_tellEach_4 rfl hl (by decide) rfl (fun ls hl => ?_)
  refine lv_aload_n hx hb dX1_tellEach_5 rfl (lv_at hl 0 rfl) ?_
  refine an_10 X hK hW dX1_tellEach_6 ?_
  refine lv_istore_n (lv' := [(3, .int 6), (2, .ref (ad 10 0)), (0, .ref (ad 2 0)), (1, .ref (ad 8 i1))]) hx hb dX1_tellEach_7 rfl hl (by decide) rfl (fun ls hl => ?_)
  refine lv_iconst (v := 0) hx hb dX1_tellEach_8 (by decide) ?_
  refine lv_istore (lv' := [(4, .int 0), (3, .int 6), (2, .ref (ad 10 0)), (0, .ref (ad 2 0)), (1, .ref (ad 8 i1))]) hx hb dX1_tellEach_9 hl (by decide) rfl (fun ls hl => ?_)
  exact (l_yX1_tellEach_11 l E ad N X hK hZ 70) _ _ _ _ _ hf w1 _ _ _ hW hS (lv_sub hl [3, 4, 2, 1, 0] rfl)
set_option maxRecDepth 100000 in
set_option maxHeartbeats 4000000 in
theorem k_yX1_tellEach {p : Program} {l : Launch} {e : Env} {R : Room} {s : State} {m : MethodId} {args : Array Value} {below : List Frame} {meth : Method} {c : Code} {H : Heap} {locs : List Loc} {cells slots : Nat} {Q : State → Prop} {cc : ByteArray} {pc nL index : Nat} {ret : Option FieldType} {own : String} {ls : Array Slot} {rest : List Value} {E : Lay} {ad : Nat → Nat → Nat} {M N : Mem} (X : CX p s m args meth c cc nL ret own) (hK : KK E s) (hZ : ZZ E s) (hW : WD E ad (M, N) H) (hS : va_S (ow E) s.heap H locs) (hsz : ls.size = nL) {i1 : Nat} (w1 : i1 < (M 60 0 1).toNatClampNeg) {Mr : Mem} (hf : f_yX1_tellEach M i1 = some Mr) (hn : Cond.methodLink own index yX1_tellEach ∈ TB) (hR : 2 + 1 ≤ R.frames ∧ 8 + (6 + 11) + 46 ≤ R.locals) (hC : cells ≤ R.cells ∧ slots ≤ R.slots) (h8 : (rest.map fun v => v.category).sum ≤ 8) (hdg : decode cc pc = .ok (.invokevirtual index, 3)) (kk : ∀ (H1 : Heap) (locs1 : List Loc), WD E ad (Mr, N) H1 → va_S (ow E) s.heap H1 locs1 → W p l e R s m args below meth c H1 locs1 cells slots Q (F0 m (pc + 3) ls (rest))) : W p l e R s m args below meth c H locs cells slots Q (F0 m pc ls (.ref (ad 8 i1) :: .ref (ad 2 0) :: rest)) := by
  refine va_callv (va_runV (C := RX1) (As := [.ref (ad 8 i1)]) (rest := rest) ⟨X.1, X.2.1, X.2.2.1, X.2.2.2.1, X.2.2.2.2.1⟩ (c_yX1_tellEach l E ad M N i1 w1 Mr hf) (cwV 1 X.2.2.2.2.1 (gV hn im_yX1_tellEach se_yX1_tellEach iniRX1 cd_yX1_tellEach) rfl rfl rfl (by decide +kernel) hR) ⟨fun a U g mk q => ⟨q.1, q.2.calling⟩, va_recv hK.1 (hW.at (c := 2) (i := 0) Nat.zero_lt_one rfl) (ci := 1) (q0 := 0) rfl rfl, fun U hU hw => ⟨rfl, PB.at hW hK hZ hS hU hw⟩⟩ rfl rfl hsz rfl (lv_room h8) hdg hC) hS (fun _ _ h => h) (fun _ h => h) (fun u t H1 locs1 ht hvm hw hB hz1 hk1 hS1 => ?_)
  subst hw
  rw [ht] at hB
  exact kk H1 locs1 hB hS1
def f_yX1_timeAfter (M : Mem) (x1 : Int32) : Option (Int32) := ob1 (f_yJ9_min_7cf53 x1 1000000) (fun r2 => (some ((M 2 0 0) + r2)))
set_option maxRecDepth 100000 in
set_option maxHeartbeats 4000000 in
theorem c_yX1_timeAfter (l : Launch) (E : Lay) (ad : Nat → Nat → Nat) (M N : Mem) (x1 : Int32) (r : Int32) (hf : f_yX1_timeAfter M x1 = some r) : Met l yX1_timeAfter (Cond.code yX1_timeAfter cX1_timeAfter 2 (some .int) :: TB) (rmm 1 21) (va_Pc [.ref (ad 2 0), .int x1] (PB E ad (M, N))) (Qi E ad r (M, N)) 0 0 (ow E) := by
  refine Met.ofW (cc := cX1_timeAfter) (maxL := 2) (ret := (some .int)) (by decide) rfl ?_
  intro p e s m args below meth c s₁ B hml hv
  obtain ⟨rfl, hW, hK, hZ⟩ := hv
  have hT : ∀ w ∈ TB, w.before _ s = true := fun w h => atoms_spec (ws := (Cond.code yX1_timeAfter cX1_timeAfter 2 (some .int) :: TB)) B.pre w (List.mem_cons_of_mem _ h)
  have X : CX p s m _ meth c cX1_timeAfter 2 (some .int) RX1 := ⟨B.exec, B.bytes, hml, findClass_of_methodNamed B.named, hT, B.returns, B.notSynchronized⟩
  obtain ⟨hx, hb, hml, hown, hT, hr, hlk⟩ := id X
  have hS : va_S (ow E) s.heap s.heap [] := va_S.rf
  have hl := lv_entry ([.ref (ad 2 0), .int x1]) (n := 2) (Nat.le_of_ble_eq_true rfl)
  rw [lg_entry_eq]
  generalize (lg_sl ([.ref (ad 2 0), .int x1]) ++ List.replicate (2 - (lg_sl ([.ref (ad 2 0), .int x1])).length) Slot.unset).toArray = ls at hl ⊢
  have hl : lv_has ls 2 [(0, .ref (ad 2 0)), (1, .int x1)] := hl
  unfold f_yX1_timeAfter at hf
  refine lv_aload_n hx hb dX1_timeAfter_0 rfl (lv_at hl 0 rfl) ?_
  refine g_1_2 X hK hW flRX1_49 dX1_timeAfter_1 ?_
  refine lv_iload_n hx hb dX1_timeAfter_4 rfl (lv_at hl 1 rfl) ?_
  refine lv_ldc (v := 1000000) hx hb hown (hT _ coRX1_111) dX1_timeAfter_5 ?_
  obtain ⟨r2, h1, hf⟩ := ob1_some hf
  refine k_yJ9_min_7cf53 X hK hZ hW hS hl.1 h1 mlRX1_112 ⟨Nat.le_of_ble_eq_true rfl, Nat.le_of_ble_eq_true rfl⟩ ⟨Nat.le_of_ble_eq_true rfl, Nat.le_of_ble_eq_true rfl⟩ (Nat.le_of_ble_eq_true rfl) dX1_timeAfter_7 (fun H locs hW hS => ?_)
  refine lv_iadd hx hb dX1_timeAfter_10 ?_
  obtain rfl := sp1 hf
  exact e_i ⟨hx, hb, hr, hlk⟩ hW hS dX1_timeAfter_11
set_option maxRecDepth 100000 in
set_option maxHeartbeats 4000000 in
theorem k_yX1_timeAfter {p : Program} {l : Launch} {e : Env} {R : Room} {s : State} {m : MethodId} {args : Array Value} {below : List Frame} {meth : Method} {c : Code} {H : Heap} {locs : List Loc} {cells slots : Nat} {Q : State → Prop} {cc : ByteArray} {pc nL index : Nat} {ret : Option FieldType} {own : String} {ls : Array Slot} {rest : List Value} {E : Lay} {ad : Nat → Nat → Nat} {M N : Mem} (X : CX p s m args meth c cc nL ret own) (hK : KK E s) (hZ : ZZ E s) (hW : WD E ad (M, N) H) (hS : va_S (ow E) s.heap H locs) (hsz : ls.size = nL) {x1 : Int32} {r : Int32} (hf : f_yX1_timeAfter M x1 = some r) (hn : Cond.methodLink own index yX1_timeAfter ∈ TB) (hR : 1 + 1 ≤ R.frames ∧ 8 + (2 + 11) + 21 ≤ R.locals) (hC : cells ≤ R.cells ∧ slots ≤ R.slots) (h8 : (rest.map fun v => v.category).sum ≤ 8) (hdg : decode cc pc = .ok (.invokevirtual index, 3)) (kk : ∀ (H1 : Heap) (locs1 : List Loc), WD E ad (M, N) H1 → va_S (ow E) s.heap H1 locs1 → W p l e R s m args below meth c H1 locs1 cells slots Q (F0 m (pc + 3) ls (.int r :: rest))) : W p l e R s m args below meth c H locs cells slots Q (F0 m pc ls (.int x1 :: .ref (ad 2 0) :: rest)) := by
  refine va_calli (va_runV (C := RX1) (As := [.int x1]) (rest := rest) ⟨X.1, X.2.1, X.2.2.1, X.2.2.2.1, X.2.2.2.2.1⟩ (c_yX1_timeAfter l E ad M N x1 r hf) (cwV 1 X.2.2.2.2.1 (gV hn im_yX1_timeAfter se_yX1_timeAfter iniRX1 cd_yX1_timeAfter) rfl rfl rfl (by decide +kernel) hR) ⟨fun a U g mk q => ⟨q.1, q.2.calling⟩, va_recv hK.1 (hW.at (c := 2) (i := 0) Nat.zero_lt_one rfl) (ci := 1) (q0 := 0) rfl rfl, fun U hU hw => ⟨rfl, PB.at hW hK hZ hS hU hw⟩⟩ rfl rfl hsz rfl (lv_room h8) hdg hC) hS (fun _ _ h => h) (fun _ h => h) (fun r' u t H1 locs1 ht hvm hw hB hz1 hk1 hS1 => ?_)
  obtain ⟨rfl, rfl⟩ := hw
  rw [ht] at hB
  exact kk H1 locs1 hB hS1
