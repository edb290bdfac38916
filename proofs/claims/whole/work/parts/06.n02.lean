def f_yX9_isLeft (N : Mem) (x1 : Int32) : Option Mem := gd (¬ (x1 < 0 ∨ 32 ≤ x1.toNatClampNeg)) (lt1 (mp N 25 0 x1.toNatClampNeg (-4)) (fun N2 => lt1 (mp N2 26 0 x1.toNatClampNeg 0) (fun N3 => ob1 (f_yX9_next N3 3 x1) (fun r5 => (if r5 = (-4) then (some N3) else ob1 (f_yX9_getIn N3 r5) (fun N8 => (some N8)))))))
set_option maxRecDepth 100000 in
set_option maxHeartbeats 4000000 in
theorem c_yX9_isLeft (l : Launch) (E : Lay) (ad : Nat → Nat → Nat) (M N : Mem) (x1 : Int32) (Nr : Mem) (hf : f_yX9_isLeft N x1 = some Nr) : Met l yX9_isLeft (Cond.code yX9_isLeft cX9_isLeft 3 none :: TB) (rmm 1 25) (va_Pc [.ref (ad 20 0), .int x1] (PB E ad (M, N))) (Qv E ad (M, Nr)) 0 0 (ow E) := by
  refine Met.ofW (cc := cX9_isLeft) (maxL := 3) (ret := none) (by decide) rfl ?_
  intro p e s m args below meth c s₁ B hml hv
  obtain ⟨rfl, hW, hK, hZ⟩ := hv
  have hT : ∀ w ∈ TB, w.before _ s = true := fun w h => atoms_spec (ws := (Cond.code yX9_isLeft cX9_isLeft 3 none :: TB)) B.pre w (List.mem_cons_of_mem _ h)
  have X : CX p s m _ meth c cX9_isLeft 3 none RX9 := ⟨B.exec, B.bytes, hml, findClass_of_methodNamed B.named, hT, B.returns, B.notSynchronized⟩
  obtain ⟨hx, hb, hml, hown, hT, hr, hlk⟩ := id X
  have hS : va_S (ow E) s.heap s.heap [] := va_S.rf
  have hl := lv_entry ([.ref (ad 20 0), .int x1]) (n := 3) (Nat.le_of_ble_eq_true rfl)
  rw [lg_entry_eq]
  generalize (lg_sl ([.ref (ad 20 0), .int x1]) ++ List.replicate (3 - (lg_sl ([.ref (ad 20 0), .int x1])).length) Slot.unset).toArray = ls at hl ⊢
  have hl : lv_has ls 3 [(0, .ref (ad 20 0)), (1, .int x1)] := hl
  unfold f_yX9_isLeft at hf
  refine lv_aload_n hx hb dX9_isLeft_0 rfl (lv_at hl 0 rfl) ?_
  refine g_9_5 X hK hW flRX9_22 dX9_isLeft_1 ?_
  refine lv_iload_n hx hb dX9_isLeft_4 rfl (lv_at hl 1 rfl) ?_
  refine lv_bipush (v := -4) hx hb dX9_isLeft_5 (by decide) ?_
  obtain ⟨b1, hf⟩ := gd_some hf
  obtain ⟨N2, hN2, hf⟩ := lt1_some hf
  refine as_25 X hK hW hS b1 hN2 dX9_isLeft_7 (fun H locs hW hS => ?_)
  refine lv_aload_n hx hb dX9_isLeft_8 rfl (lv_at hl 0 rfl) ?_
  refine g_9_6 X hK hW flRX9_25 dX9_isLeft_9 ?_
  refine lv_iload_n hx hb dX9_isLeft_12 rfl (lv_at hl 1 rfl) ?_
  refine lv_iconst (v := 0) hx hb dX9_isLeft_13 (by decide) ?_
  obtain ⟨N3, hN3, hf⟩ := lt1_some hf
  refine as_26 X hK hW hS b1 hN3 dX9_isLeft_14 (fun H locs hW hS => ?_)
  refine lv_aload_n hx hb dX9_isLeft_15 rfl (lv_at hl 0 rfl) ?_
  refine lv_iconst (v := 3) hx hb dX9_isLeft_16 (by decide) ?_
  refine lv_iload_n hx hb dX9_isLeft_17 rfl (lv_at hl 1 rfl) ?_
  obtain ⟨r5, h4, hf⟩ := ob1_some hf
  refine k_yX9_next X hK hZ hW hS hl.1 h4 mlRX9_165 ⟨Nat.le_of_ble_eq_true rfl, Nat.le_of_ble_eq_true rfl⟩ ⟨Nat.le_of_ble_eq_true rfl, Nat.le_of_ble_eq_true rfl⟩ (Nat.le_of_ble_eq_true rfl) dX9_isLeft_18 (fun H locs hW hS => ?_)
  refine lv_istore_n (lv' := [(2, .int r5), (0, .ref (ad 20 0)), (1, .int x1)]) hx hb dX9_isLeft_21 rfl hl (by decide) rfl (fun ls hl => ?_)
  refine lv_iload_n hx hb dX9_isLeft_22 rfl (lv_at hl 0 rfl) ?_
  refine lv_bipush (v := -4) hx hb dX9_isLeft_23 (by decide) ?_
  refine lv_icmp_eq (tgt := 33) hx hb dX9_isLeft_25 (by decide) (fun c6 => ?_) (fun c6 => ?_)
  · rw [if_pos c6] at hf
    obtain rfl := sp1 hf
    exact e_v ⟨hx, hb, hr, hlk⟩ hW hS dX9_isLeft_33
  · rw [if_neg c6] at hf
    refine lv_aload_n hx hb dX9_isLeft_28 rfl (lv_at hl 1 rfl) ?_
    refine lv_iload_n hx hb dX9_isLeft_29 rfl (lv_at hl 0 rfl) ?_
    obtain ⟨N8, h7, hf⟩ := ob1_some hf
    refine k_yX9_getIn X hK hZ hW hS hl.1 h7 mlRX9_156 ⟨Nat.le_of_ble_eq_true rfl, Nat.le_of_ble_eq_true rfl⟩ ⟨Nat.le_of_ble_eq_true rfl, Nat.le_of_ble_eq_true rfl⟩ (Nat.le_of_ble_eq_true rfl) dX9_isLeft_30 (fun H locs hW hS => ?_)
    obtain rfl := sp1 hf
    exact e_v ⟨hx, hb, hr, hlk⟩ hW hS dX9_isLeft_33
set_option maxRecDepth 100000 in
set_option maxHeartbeats 4000000 in
theorem k_yX9_isLeft {p : Program} {l : Launch} {e : Env} {R : Room} {s : State} {m : MethodId} {args : Array Value} {below : List Frame} {meth : Method} {c : Code} {H : Heap} {locs : List Loc} {cells slots : Nat} {Q : State → Prop} {cc : ByteArray} {pc nL index : Nat} {ret : Option FieldType} {own : String} {ls : Array Slot} {rest : List Value} {E : Lay} {ad : Nat → Nat → Nat} {M N : Mem} (X : CX p s m args meth c cc nL ret own) (hK : KK E s) (hZ : ZZ E s) (hW : WD E ad (M, N) H) (hS : va_S (ow E) s.heap H locs) (hsz : ls.size = nL) {x1 : Int32} {Nr : Mem} (hf : f_yX9_isLeft N x1 = some Nr) (hn : Cond.methodLink own index yX9_isLeft ∈ TB) (hR : 1 + 1 ≤ R.frames ∧ 8 + (3 + 11) + 25 ≤ R.locals) (hC : cells ≤ R.cells ∧ slots ≤ R.slots) (h8 : (rest.map fun v => v.category).sum ≤ 8) (hdg : decode cc pc = .ok (.invokevirtual index, 3)) (kk : ∀ (H1 : Heap) (locs1 : List Loc), WD E ad (M, Nr) H1 → va_S (ow E) s.heap H1 locs1 → W p l e R s m args below meth c H1 locs1 cells slots Q (F0 m (pc + 3) ls (rest))) : W p l e R s m args below meth c H locs cells slots Q (F0 m pc ls (.int x1 :: .ref (ad 20 0) :: rest)) := by
  refine va_callv (va_runV (C := RX9) (As := [.int x1]) (rest := rest) ⟨X.1, X.2.1, X.2.2.1, X.2.2.2.1, X.2.2.2.2.1⟩ (c_yX9_isLeft l E ad M N x1 Nr hf) (cwV 1 X.2.2.2.2.1 (gV hn im_yX9_isLeft se_yX9_isLeft iniRX9 cd_yX9_isLeft) rfl rfl rfl (by decide +kernel) hR) ⟨fun a U g mk q => ⟨q.1, q.2.calling⟩, va_recv hK.1 (hW.at (c := 20) (i := 0) Nat.zero_lt_one rfl) (ci := 9) (q0 := 0) rfl rfl, fun U hU hw => ⟨rfl, PB.at hW hK hZ hS hU hw⟩⟩ rfl rfl hsz rfl (lv_room h8) hdg hC) hS (fun _ _ h => h) (fun _ h => h) (fun u t H1 locs1 ht hvm hw hB hz1 hk1 hS1 => ?_)
  subst hw
  rw [ht] at hB
  exact kk H1 locs1 hB hS1
def f_yX9_isTold (N : Mem) (x1 : Int32) : Option Mem := gd (¬ (x1 < 0 ∨ 6 ≤ x1.toNatClampNeg)) (lt1 (mp N 40 0 x1.toNatClampNeg (-4)) (fun N2 => ob1 (f_yX9_getIn N2 x1) (fun N4 => (some N4))))
set_option maxRecDepth 100000 in
set_option maxHeartbeats 4000000 in
theorem c_yX9_isTold (l : Launch) (E : Lay) (ad : Nat → Nat → Nat) (M N : Mem) (x1 : Int32) (Nr : Mem) (hf : f_yX9_isTold N x1 = some Nr) : Met l yX9_isTold (Cond.code yX9_isTold cX9_isTold 2 none :: TB) (rmm 1 22) (va_Pc [.ref (ad 20 0), .int x1] (PB E ad (M, N))) (Qv E ad (M, Nr)) 0 0 (ow E) := by
  refine Met.ofW (cc := cX9_isTold) (maxL := 2) (ret := none) (by decide) rfl ?_
  intro p e s m args below meth c s₁ B hml hv
  obtain ⟨rfl, hW, hK, hZ⟩ := hv
  have hT : ∀ w ∈ TB, w.before _ s = true := fun w h => atoms_spec (ws := (Cond.code yX9_isTold cX9_isTold 2 none :: TB)) B.pre w (List.mem_cons_of_mem _ h)
  have X : CX p s m _ meth c cX9_isTold 2 none RX9 := ⟨B.exec, B.bytes, hml, findClass_of_methodNamed B.named, hT, B.returns, B.notSynchronized⟩
  obtain ⟨hx, hb, hml, hown, hT, hr, hlk⟩ := id X
  have hS : va_S (ow E) s.heap s.heap [] := va_S.rf
  have hl := lv_entry ([.ref (ad 20 0), .int x1]) (n := 2) (Nat.le_of_ble_eq_true rfl)
  rw [lg_entry_eq]
  generalize (lg_sl ([.ref (ad 20 0), .int x1]) ++ List.replicate (2 - (lg_sl ([.ref (ad 20 0), .int x1])).length) Slot.unset).toArray = ls at hl ⊢
  have hl : lv_has ls 2 [(0, .ref (ad 20 0)), (1, .int x1)] := hl
  unfold f_yX9_isTold at hf
  refine lv_aload_n hx hb dX9_isTold_0 rfl (lv_at hl 0 rfl) ?_
  refine g_9_21 X hK hW flRX9_68 dX9_isTold_1 ?_
  refine lv_iload_n hx hb dX9_isTold_4 rfl (lv_at hl 1 rfl) ?_
  refine lv_bipush (v := -4) hx hb dX9_isTold_5 (by decide) ?_
  obtain ⟨b1, hf⟩ := gd_some hf
  obtain ⟨N2, hN2, hf⟩ := lt1_some hf
  refine as_40 X hK hW hS b1 hN2 dX9_isTold_7 (fun H locs hW hS => ?_)
  refine lv_aload_n hx hb dX9_isTold_8 rfl (lv_at hl 0 rfl) ?_
  refine lv_iload_n hx hb dX9_isTold_9 rfl (lv_at hl 1 rfl) ?_
  obtain ⟨N4, h3, hf⟩ := ob1_some hf
  refine k_yX9_getIn X hK hZ hW hS hl.1 h3 mlRX9_156 ⟨Nat.le_of_ble_eq_true rfl, Nat.le_of_ble_eq_true rfl⟩ ⟨Nat.le_of_ble_eq_true rfl, Nat.le_of_ble_eq_true rfl⟩ (Nat.le_of_ble_eq_true rfl) dX9_isTold_10 (fun H locs hW hS => ?_)
  obtain rfl := sp1 hf
  exact e_v ⟨hx, hb, hr, hlk⟩ hW hS dX9_isTold_13
set_option maxRecDepth 100000 in
set_option maxHeartbeats 4000000 in
theorem k_yX9_isTold {p : Program} {l : Launch} {e : Env} {R : Room} {s : State} {m : MethodId} {args : Array Value} {below : List Frame} {meth : Method} {c : Code} {H : Heap} {locs : List Loc} {cells slots : Nat} {Q : State → Prop} {cc : ByteArray} {pc nL index : Nat} {ret : Option FieldType} {own : String} {ls : Array Slot} {rest : List Value} {E : Lay} {ad : Nat → Nat → Nat} {M N : Mem} (X : CX p s m args meth c cc nL ret own) (hK : KK E s) (hZ : ZZ E s) (hW : WD E ad (M, N) H) (hS : va_S (ow E) s.heap H locs) (hsz : ls.size = nL) {x1 : Int32} {Nr : Mem} (hf : f_yX9_isTold N x1 = some Nr) (hn : Cond.methodLink own index yX9_isTold ∈ TB) (hR : 1 + 1 ≤ R.frames ∧ 8 + (2 + 11) + 22 ≤ R.locals) (hC : cells ≤ R.cells ∧ slots ≤ R.slots) (h8 : (rest.map fun v => v.category).sum ≤ 8) (hdg : decode cc pc = .ok (.invokevirtual index, 3)) (kk : ∀ (H1 : Heap) (locs1 : List Loc), WD E ad (M, Nr) H1 → va_S (ow E) s.heap H1 locs1 → W p l e R s m args below meth c H1 locs1 cells slots Q (F0 m (pc + 3) ls (rest))) : W p l e R s m args below meth c H locs cells slots Q (F0 m pc ls (.int x1 :: .ref (ad 20 0) :: rest)) := by
  refine va_callv (va_runV (C := RX9) (As := [.int x1]) (rest := rest) ⟨X.1, X.2.1, X.2.2.1, X.2.2.2.1, X.2.2.2.2.1⟩ (c_yX9_isTold l E ad M N x1 Nr hf) (cwV 1 X.2.2.2.2.1 (gV hn im_yX9_isTold se_yX9_isTold iniRX9 cd_yX9_isTold) rfl rfl rfl (by decide +kernel) hR) ⟨fun a U g mk q => ⟨q.1, q.2.calling⟩, va_recv hK.1 (hW.at (c := 20) (i := 0) Nat.zero_lt_one rfl) (ci := 9) (q0 := 0) rfl rfl, fun U hU hw => ⟨rfl, PB.at hW hK hZ hS hU hw⟩⟩ rfl rfl hsz rfl (lv_room h8) hdg hC) hS (fun _ _ h => h) (fun _ h => h) (fun u t H1 locs1 ht hvm hw hB hz1 hk1 hS1 => ?_)
  subst hw
  rw [ht] at hB
  exact kk H1 locs1 hB hS1
def f_yX9_ends_L60 : Nat → Mem → Int32 → Int32 → Option Mem
  | 0, _, _, _ => none
  | n + 1, N0, y1, y4 => (if 6 ≤ y4 then (some N0) else gd (¬ (y4 < 0 ∨ 6 ≤ y4.toNatClampNeg)) ((if (N0 31 0 y4.toNatClampNeg) = 6 then (if (N0 39 0 y4.toNatClampNeg) = y1 then lt1 (mp N0 31 0 y4.toNatClampNeg 2) (fun N10 => lt1 (mp N10 39 0 y4.toNatClampNeg (-4)) (fun N11 => (f_yX9_ends_L60 n N11 y1 (y4 + 1)))) else (f_yX9_ends_L60 n N0 y1 (y4 + 1))) else (f_yX9_ends_L60 n N0 y1 (y4 + 1)))))
def f_yX9_ends_L25 : Nat → Mem → Int32 → Int32 → Option Mem
  | 0, _, _, _ => none
  | n + 1, N0, y1, y4 => (if (N0 20 0 0) ≤ y4 then (f_yX9_ends_L60 70 N0 y1 0) else gd (¬ (y4 < 0 ∨ 32 ≤ y4.toNatClampNeg)) ((if (N0 25 0 y4.toNatClampNeg) = y1 then ob1 (f_yX9_isLeft N0 y4) (fun N15 => (f_yX9_ends_L25 n N15 y1 (y4 + 1))) else (f_yX9_ends_L25 n N0 y1 (y4 + 1)))))
def f_yX9_ends (N : Mem) (x1 : Int32) (x2 : Int32) (x3 : Int32) : Option Mem := gd (¬ (x1 < 0 ∨ 6 ≤ x1.toNatClampNeg)) (lt1 (mp N 31 0 x1.toNatClampNeg 7) (fun N2 => lt1 (mp N2 37 0 x1.toNatClampNeg x2) (fun N3 => lt1 (mp N3 38 0 x1.toNatClampNeg x3) (fun N4 => (f_yX9_ends_L25 70 N4 x1 0)))))
set_option maxRecDepth 100000 in
set_option maxHeartbeats 4000000 in
theorem l_yX9_ends_60 (l : Launch) (E : Lay) (ad : Nat → Nat → Nat) (M : Mem) {p : Program} {e : Env} {s : State} {m : MethodId} {args : Array Value} {below : List Frame} {meth : Method} {c : Code} (X : CX p s m args meth c cX9_ends 5 none RX9) (hK : KK E s) (hZ : ZZ E s) : ∀ (n : Nat) (N0 : Mem) (y1 : Int32) (y4 : Int32) (Nr : Mem) (hf : f_yX9_ends_L60 n N0 y1 y4 = some Nr) (H : Heap) (locs : List Loc) (ls : Array Slot), WD E ad (M, N0) H → va_S (ow E) s.heap H locs → lv_has ls 5 [(0, .ref (ad 20 0)), (1, .int y1), (4, .int y4)] → W p l e (rmm 2 47) s m args below meth c H locs 0 0 (MQ below (Qv E ad (M, Nr)) args s 0 0 (ow E)) (F0 m 60 ls []) := by
  obtain ⟨hx, hb, hml, hown, hT, hr, hlk⟩ := id X
  intro n
  induction n with
  | zero =>
    intro N0 y1 y4 Nr hf
    rw [f_yX9_ends_L60] at hf
    cases hf
  | succ n ih =>
    intro N0 y1 y4 Nr hf H locs ls hW hS hl
    rw [f_yX9_ends_L60] at hf
    refine lv_iload hx hb dX9_ends_60 (lv_at hl 2 rfl) ?_
    refine lv_bipush (v := 6) hx hb dX9_ends_62 (by decide) ?_
    refine lv_icmp_ge (tgt := 113) hx hb dX9_ends_64 (by decide) (fun c6 => ?_) (fun c6 => ?_)
    · rw [if_pos c6] at hf
      obtain rfl := sp1 hf
      exact e_v ⟨hx, hb, hr, hlk⟩ hW hS dX9_ends_113
    · rw [if_neg c6] at hf
      refine lv_aload_n hx hb dX9_ends_67 rfl (lv_at hl 0 rfl) ?_
      refine g_9_12 X hK hW flRX9_40 dX9_ends_68 ?_
      refine lv_iload hx hb dX9_ends_71 (lv_at hl 2 rfl) ?_
      obtain ⟨b7, hf⟩ := gd_some hf
      refine al_31 X hK hW b7 dX9_ends_73 ?_
      refine lv_bipush (v := 6) hx hb dX9_ends_74 (by decide) ?_
      refine lv_icmp_ne (tgt := 107) hx hb dX9_ends_76 (by decide) (fun c8 => ?_) (fun c8 => ?_)
      · rw [if_neg c8] at hf
        refine lv_iinc (v := (y4 + 1)) (lv' := [(4, .int (y4 + 1)), (0, .ref (ad 20 0)), (1, .int y1)]) hx hb dX9_ends_107 hl (k := 2) rfl rfl (by decide) rfl (fun ls hl => ?_)
        refine lv_goto (tgt := 60) hx hb dX9_ends_110 (by decide) ?_
        exact ih _ _ _ _ hf _ _ _ hW hS (lv_sub hl [1, 2, 0] rfl)
      · rw [if_pos c8] at hf
        refine lv_aload_n hx hb dX9_ends_79 rfl (lv_at hl 0 rfl) ?_
        refine g_9_20 X hK hW flRX9_65 dX9_ends_80 ?_
        refine lv_iload hx hb dX9_ends_83 (lv_at hl 2 rfl) ?_
        refine al_39 X hK hW b7 dX9_ends_85 ?_
        refine lv_iload_n hx hb dX9_ends_86 rfl (lv_at hl 1 rfl) ?_
        refine lv_icmp_ne (tgt := 107) hx hb dX9_ends_87 (by decide) (fun c9 => ?_) (fun c9 => ?_)
        · rw [if_neg c9] at hf
          refine lv_iinc (v := (y4 + 1)) (lv' := [(4, .int (y4 + 1)), (0, .ref (ad 20 0)), (1, .int y1)]) hx hb dX9_ends_107 hl (k := 2) rfl rfl (by decide) rfl (fun ls hl => ?_)
          refine lv_goto (tgt := 60) hx hb dX9_ends_110 (by decide) ?_
          exact ih _ _ _ _ hf _ _ _ hW hS (lv_sub hl [1, 2, 0] rfl)
        · rw [if_pos c9] at hf
          refine lv_aload_n hx hb dX9_ends_90 rfl (lv_at hl 0 rfl) ?_
          refine g_9_12 X hK hW flRX9_40 dX9_ends_91 ?_
          refine lv_iload hx hb dX9_ends_94 (lv_at hl 2 rfl) ?_
          refine lv_iconst (v := 2) hx hb dX9_ends_96 (by decide) ?_
          obtain ⟨N10, hN10, hf⟩ := lt1_some hf
          refine as_31 X hK hW hS b7 hN10 dX9_ends_97 (fun H locs hW hS => ?_)
          refine lv_aload_n hx hb dX9_ends_98 rfl (lv_at hl 0 rfl) ?_
          refine g_9_20 X hK hW flRX9_65 dX9_ends_99 ?_
          refine lv_iload hx hb dX9_ends_102 (lv_at hl 2 rfl) ?_
          refine lv_bipush (v := -4) hx hb dX9_ends_104 (by decide) ?_
          obtain ⟨N11, hN11, hf⟩ := lt1_some hf
          refine as_39 X hK hW hS b7 hN11 dX9_ends_106 (fun H locs hW hS => ?_)
          refine lv_iinc (v := (y4 + 1)) (lv' := [(4, .int (y4 + 1)), (0, .ref (ad 20 0)), (1, .int y1)]) hx hb dX9_ends_107 hl (k := 2) rfl rfl (by decide) rfl (fun ls hl => ?_)
          refine lv_goto (tgt := 60) hx hb dX9_ends_110 (by decide) ?_
          exact ih _ _ _ _ hf _ _ _ hW hS (lv_sub hl [1, 2, 0] rfl)
set_option maxRecDepth 100000 in
set_option maxHeartbeats 4000000 in
theorem l_yX9_ends_25 (l : Launch) (E : Lay) (ad : Nat → Nat → Nat) (M : Mem) {p : Program} {e : Env} {s : State} {m : MethodId} {args : Array Value} {below : List Frame} {meth : Method} {c : Code} (X : CX p s m args meth c cX9_ends 5 none RX9) (hK : KK E s) (hZ : ZZ E s) : ∀ (n : Nat) (N0 : Mem) (y1 : Int32) (y4 : Int32) (Nr : Mem) (hf : f_yX9_ends_L25 n N0 y1 y4 = some Nr) (H : Heap) (locs : List Loc) (ls : Array Slot), WD E ad (M, N0) H → va_S (ow E) s.heap H locs → lv_has ls 5 [(0, .ref (ad 20 0)), (1, .int y1), (4, .int y4)] → W p l e (rmm 2 47) s m args below meth c H locs 0 0 (MQ below (Qv E ad (M, Nr)) args s 0 0 (ow E)) (F0 m 25 ls []) := by
  obtain ⟨hx, hb, hml, hown, hT, hr, hlk⟩ := id X
  intro n
  induction n with
  | zero =>
    intro N0 y1 y4 Nr hf
    rw [f_yX9_ends_L25] at hf
    cases hf
  | succ n ih =>
    intro N0 y1 y4 Nr hf H locs ls hW hS hl
    rw [f_yX9_ends_L25] at hf
    refine lv_iload hx hb dX9_ends_25 (lv_at hl 2 rfl) ?_
    refine lv_aload_n hx hb dX9_ends_27 rfl (lv_at hl 0 rfl) ?_
    refine g_9_0 X hK hW flRX9_111 dX9_ends_28 ?_
    refine lv_icmp_ge (tgt := 57) hx hb dX9_ends_31 (by decide) (fun c5 => ?_) (fun c5 => ?_)
    · rw [if_pos c5] at hf
      refine lv_iconst (v := 0) hx hb dX9_ends_57 (by decide) ?_
      refine lv_istore (lv' := [(4, .int 0), (0, .ref (ad 20 0)), (1, .int y1)]) hx hb dX9_ends_58 hl (by decide) rfl (fun ls hl => ?_)
      exact (l_yX9_ends_60 l E ad M X hK hZ 70) _ _ _ _ hf _ _ _ hW hS (lv_sub hl [1, 2, 0] rfl)
    · rw [if_neg c5] at hf
      refine lv_aload_n hx hb dX9_ends_34 rfl (lv_at hl 0 rfl) ?_
      refine g_9_5 X hK hW flRX9_22 dX9_ends_35 ?_
      refine lv_iload hx hb dX9_ends_38 (lv_at hl 2 rfl) ?_
      obtain ⟨b12, hf⟩ := gd_some hf
      refine al_25 X hK hW b12 dX9_ends_40 ?_
      refine lv_iload_n hx hb dX9_ends_41 rfl (lv_at hl 1 rfl) ?_
      refine lv_icmp_ne (tgt := 51) hx hb dX9_ends_42 (by decide) (fun c13 => ?_) (fun c13 => ?_)
      · rw [if_neg c13] at hf
        refine lv_iinc (v := (y4 + 1)) (lv' := [(4, .int (y4 + 1)), (0, .ref (ad 20 0)), (1, .int y1)]) hx hb dX9_ends_51 hl (k := 2) rfl rfl (by decide) rfl (fun ls hl => ?_)
        refine lv_goto (tgt := 25) hx hb dX9_ends_54 (by decide) ?_
        exact ih _ _ _ _ hf _ _ _ hW hS (lv_sub hl [1, 2, 0] rfl)
      · rw [if_pos c13] at hf
        refine lv_aload_n hx hb dX9_ends_45 rfl (lv_at hl 0 rfl) ?_
        refine lv_iload hx hb dX9_ends_46 (lv_at hl 2 rfl) ?_
        obtain ⟨N15, h14, hf⟩ := ob1_some hf
        refine k_yX9_isLeft X hK hZ hW hS hl.1 h14 mlRX9_168 ⟨Nat.le_of_ble_eq_true rfl, Nat.le_of_ble_eq_true rfl⟩ ⟨Nat.le_of_ble_eq_true rfl, Nat.le_of_ble_eq_true rfl⟩ (Nat.le_of_ble_eq_true rfl) dX9_ends_48 (fun H locs hW hS => ?_)
        refine lv_iinc (v := (y4 + 1)) (lv' := [(4, .int (y4 + 1)), (0, .ref (ad 20 0)), (1, .int y1)]) hx hb dX9_ends_51 hl (k := 2) rfl rfl (by decide) rfl (fun ls hl => ?_)
        refine lv_goto (tgt := 25) hx hb dX9_ends_54 (by decide) ?_
        exact ih _ _ _ _ hf _ _ _ hW hS (lv_sub hl [1, 2, 0] rfl)
set_option maxRecDepth 100000 in
set_option maxHeartbeats 4000000 in
theorem c_yX9_ends (l : Launch) (E : Lay) (ad : Nat → Nat → Nat) (M N : Mem) (x1 : Int32) (x2 : Int32) (x3 : Int32) (Nr : Mem) (hf : f_yX9_ends N x1 x2 x3 = some Nr) : Met l yX9_ends (Cond.code yX9_ends cX9_ends 5 none :: TB) (rmm 2 47) (va_Pc [.ref (ad 20 0), .int x1, .int x2, .int x3] (PB E ad (M, N))) (Qv E ad (M, Nr)) 0 0 (ow E) := by
  refine Met.ofW (cc := cX9_ends) (maxL := 5) (ret := none) (by decide) rfl ?_
  intro p e s m args below meth c s₁ B hml hv
  obtain ⟨rfl, hW, hK, hZ⟩ := hv
  have hT : ∀ w ∈ TB, w.before _ s = true := fun w h => atoms_spec (ws := (Cond.code yX9_ends cX9_ends 5 none :: TB)) B.pre w (List.mem_cons_of_mem _ h)
  have X : CX p s m _ meth c cX9_ends 5 none RX9 := ⟨B.exec, B.bytes, hml, findClass_of_methodNamed B.named, hT, B.returns, B.notSynchronized⟩
  obtain ⟨hx, hb, hml, hown, hT, hr, hlk⟩ := id X
  have hS : va_S (ow E) s.heap s.heap [] := va_S.rf
  have hl := lv_entry ([.ref (ad 20 0), .int x1, .int x2, .int x3]) (n := 5) (Nat.le_of_ble_eq_true rfl)
  rw [lg_entry_eq]
  generalize (lg_sl ([.ref (ad 20 0), .int x1, .int x2, .int x3]) ++ List.replicate (5 - (lg_sl ([.ref (ad 20 0), .int x1, .int x2, .int x3])).length) Slot.unset).toArray = ls at hl ⊢
  have hl : lv_has ls 5 [(0, .ref (ad 20 0)), (1, .int x1), (2, .int x2), (3, .int x3)] := hl
  unfold f_yX9_ends at hf
  refine lv_aload_n hx hb dX9_ends_0 rfl (lv_at hl 0 rfl) ?_
  refine g_9_12 X hK hW flRX9_40 dX9_ends_1 ?_
  refine lv_iload_n hx hb dX9_ends_4 rfl (lv_at hl 1 rfl) ?_
  refine lv_bipush (v := 7) hx hb dX9_ends_5 (by decide) ?_
  obtain ⟨b1, hf⟩ := gd_some hf
  obtain ⟨N2, hN2, hf⟩ := lt1_some hf
  refine as_31 X hK hW hS b1 hN2 dX9_ends_7 (fun H locs hW hS => ?_)
  refine lv_aload_n hx hb dX9_ends_8 rfl (lv_at hl 0 rfl) ?_
  refine g_9_18 X hK hW flRX9_59 dX9_ends_9 ?_
  refine lv_iload_n hx hb dX9_ends_12 rfl (lv_at hl 1 rfl) ?_
  refine lv_iload_n hx hb dX9_ends_13 rfl (lv_at hl 2 rfl) ?_
  obtain ⟨N3, hN3, hf⟩ := lt1_some hf
  refine as_37 X hK hW hS b1 hN3 dX9_ends_14 (fun H locs hW hS => ?_)
  refine lv_aload_n hx hb dX9_ends_15 rfl (lv_at hl 0 rfl) ?_
  refine g_9_19 X hK hW flRX9_62 dX9_ends_16 ?_
  refine lv_iload_n hx hb dX9_ends_19 rfl (lv_at hl 1 rfl) ?_
  refine lv_iload_n hx hb dX9_ends_20 rfl (lv_at hl 3 rfl) ?_
  obtain ⟨N4, hN4, hf⟩ := lt1_some hf
  refine as_38 X hK hW hS b1 hN4 dX9_ends_21 (fun H locs hW hS => ?_)
  refine lv_iconst (v := 0) hx hb dX9_ends_22 (by decide) ?_
  refine lv_istore (lv' := [(4, .int 0), (0, .ref (ad 20 0)), (1, .int x1), (2, .int x2), (3, .int x3)]) hx hb dX9_ends_23 hl (by decide) rfl (fun ls hl => ?_)
  exact (l_yX9_ends_25 l E ad M X hK hZ 70) _ _ _ _ hf _ _ _ hW hS (lv_sub hl [1, 2, 0] rfl)
set_option maxRecDepth 100000 in
set_option maxHeartbeats 4000000 in
theorem k_yX9_ends {p : Program} {l : Launch} {e : Env} {R : Room} {s : State} {m : MethodId} {args : Array Value} {below : List Frame} {meth : Method} {c : Code} {H : Heap} {locs : List Loc} {cells slots : Nat} {Q : State → Prop} {cc : ByteArray} {pc nL index : Nat} {ret : Option FieldType} {own : String} {ls : Array Slot} {rest : List Value} {E : Lay} {ad : Nat → Nat → Nat} {M N : Mem} (X : CX p s m args meth c cc nL ret own) (hK : KK E s) (hZ : ZZ E s) (hW : WD E ad (M, N) H) (hS : va_S (ow E) s.heap H locs) (hsz : ls.size = nL) {x1 : Int32} {x2 : Int32} {x3 : Int32} {Nr : Mem} (hf : f_yX9_ends N x1 x2 x3 = some Nr) (hn : Cond.methodLink own index yX9_ends ∈ TB) (hR : 2 + 1 ≤ R.frames ∧ 8 + (5 + 11) + 47 ≤ R.locals) (hC : cells ≤ R.cells ∧ slots ≤ R.slots) (h8 : (rest.map fun v => v.category).sum ≤ 8) (hdg : decode cc pc = .ok (.invokevirtual index, 3)) (kk : ∀ (H1 : Heap) (locs1 : List Loc), WD E ad (M, Nr) H1 → va_S (ow E) s.heap H1 locs1 → W p l e R s m args below meth c H1 locs1 cells slots Q (F0 m (pc + 3) ls (rest))) : W p l e R s m args below meth c H locs cells slots Q (F0 m pc ls (.int x3 :: .int x2 :: .int x1 :: .ref (ad 20 0) :: rest)) := by
  refine va_callv (va_runV (C := RX9) (As := [.int x1, .int x2, .int x3]) (rest := rest) ⟨X.1, X.2.1, X.2.2.1, X.2.2.2.1, X.2.2.2.2.1⟩ (c_yX9_ends l E ad M N x1 x2 x3 Nr hf) (cwV 3 X.2.2.2.2.1 (gV hn im_yX9_ends se_yX9_ends iniRX9 cd_yX9_ends) rfl rfl rfl (by decide +kernel) hR) ⟨fun a U g mk q => ⟨q.1, q.2.calling⟩, va_recv hK.1 (hW.at (c := 20) (i := 0) Nat.zero_lt_one rfl) (ci := 9) (q0 := 0) rfl rfl, fun U hU hw => ⟨rfl, PB.at hW hK hZ hS hU hw⟩⟩ rfl rfl hsz rfl (lv_room h8) hdg hC) hS (fun _ _ h => h) (fun _ h => h) (fun u t H1 locs1 ht hvm hw hB hz1 hk1 hS1 => ?_)
  subst hw
  rw [ht] at hB
  exact kk H1 locs1 hB hS1
def f_yX9_rule (N : Mem) (x1 : Int32) : Option (Int32 × Mem) := ob1 (f_yX9_in x1 0 1) (fun r2 => (if r2 = 0 then (some ((-1), N)) else lt1 (mp N 20 0 3 x1) (fun N4 => (some ((N 20 0 3), N4)))))
set_option maxRecDepth 100000 in
set_option maxHeartbeats 4000000 in
theorem c_yX9_rule (l : Launch) (E : Lay) (ad : Nat → Nat → Nat) (M N : Mem) (x1 : Int32) (r : Int32) (Nr : Mem) (hf : f_yX9_rule N x1 = some (r, Nr)) : Met l yX9_rule (Cond.code yX9_rule cX9_rule 3 (some .int) :: TB) (rmm 1 22) (va_Pc [.ref (ad 20 0), .int x1] (PB E ad (M, N))) (Qi E ad r (M, Nr)) 0 0 (ow E) := by
  refine Met.ofW (cc := cX9_rule) (maxL := 3) (ret := (some .int)) (by decide) rfl ?_
  intro p e s m args below meth c s₁ B hml hv
  obtain ⟨rfl, hW, hK, hZ⟩ := hv
  have hT : ∀ w ∈ TB, w.before _ s = true := fun w h => atoms_spec (ws := (Cond.code yX9_rule cX9_rule 3 (some .int) :: TB)) B.pre w (List.mem_cons_of_mem _ h)
  have X : CX p s m _ meth c cX9_rule 3 (some .int) RX9 := ⟨B.exec, B.bytes, hml, findClass_of_methodNamed B.named, hT, B.returns, B.notSynchronized⟩
  obtain ⟨hx, hb, hml, hown, hT, hr, hlk⟩ := id X
  have hS : va_S (ow E) s.heap s.heap [] := va_S.rf
  have hl := lv_entry ([.ref (ad 20 0), .int x1]) (n := 3) (Nat.le_of_ble_eq_true rfl)
  rw [lg_entry_eq]
  generalize (lg_sl ([.ref (ad 20 0), .int x1]) ++ List.replicate (3 - (lg_sl ([.ref (ad 20 0), .int x1])).length) Slot.unset).toArray = ls at hl ⊢
  have hl : lv_has ls 3 [(0, .ref (ad 20 0)), (1, .int x1)] := hl
  unfold f_yX9_rule at hf
  refine lv_iload_n hx hb dX9_rule_0 rfl (lv_at hl 1 rfl) ?_
  refine lv_iconst (v := 0) hx hb dX9_rule_1 (by decide) ?_
  refine lv_iconst (v := 1) hx hb dX9_rule_2 (by decide) ?_
  obtain ⟨r2, h1, hf⟩ := ob1_some hf
  refine k_yX9_in X hK hZ hW hS hl.1 h1 mlRX9_114 ⟨Nat.le_of_ble_eq_true rfl, Nat.le_of_ble_eq_true rfl⟩ ⟨Nat.le_of_ble_eq_true rfl, Nat.le_of_ble_eq_true rfl⟩ (Nat.le_of_ble_eq_true rfl) dX9_rule_3 (fun H locs hW hS => ?_)
  refine lv_if_ne (tgt := 11) hx hb dX9_rule_6 (by decide) (fun c3 => ?_) (fun c3 => ?_)
  · rw [if_neg c3] at hf
    refine lv_aload_n hx hb dX9_rule_11 rfl (lv_at hl 0 rfl) ?_
    refine g_9_33 X hK hW flRX9_171 dX9_rule_12 ?_
    refine lv_istore_n (lv' := [(2, .int (N 20 0 3)), (0, .ref (ad 20 0)), (1, .int x1)]) hx hb dX9_rule_15 rfl hl (by decide) rfl (fun ls hl => ?_)
    refine lv_aload_n hx hb dX9_rule_16 rfl (lv_at hl 1 rfl) ?_
    refine lv_iload_n hx hb dX9_rule_17 rfl (lv_at hl 2 rfl) ?_
    obtain ⟨N4, hN4, hf⟩ := lt1_some hf
    refine p_9_33 X hK hW hS hN4 flRX9_171 dX9_rule_18 (fun H locs hW hS => ?_)
    refine lv_iload_n hx hb dX9_rule_21 rfl (lv_at hl 0 rfl) ?_
    obtain ⟨rfl, rfl⟩ := sp2 hf
    exact e_i ⟨hx, hb, hr, hlk⟩ hW hS dX9_rule_22
  · rw [if_pos c3] at hf
    refine lv_iconst (v := -1) hx hb dX9_rule_9 (by decide) ?_
    obtain ⟨rfl, rfl⟩ := sp2 hf
    exact e_i ⟨hx, hb, hr, hlk⟩ hW hS dX9_rule_10
set_option maxRecDepth 100000 in
set_option maxHeartbeats 4000000 in
theorem k_yX9_rule {p : Program} {l : Launch} {e : Env} {R : Room} {s : State} {m : MethodId} {args : Array Value} {below : List Frame} {meth : Method} {c : Code} {H : Heap} {locs : List Loc} {cells slots : Nat} {Q : State → Prop} {cc : ByteArray} {pc nL index : Nat} {ret : Option FieldType} {own : String} {ls : Array Slot} {rest : List Value} {E : Lay} {ad : Nat → Nat → Nat} {M N : Mem} (X : CX p s m args meth c cc nL ret own) (hK : KK E s) (hZ : ZZ E s) (hW : WD E ad (M, N) H) (hS : va_S (ow E) s.heap H locs) (hsz : ls.size = nL) {x1 : Int32} {r : Int32} {Nr : Mem} (hf : f_yX9_rule N x1 = some (r, Nr)) (hn : Cond.methodLink own index yX9_rule ∈ TB) (hR : 1 + 1 ≤ R.frames ∧ 8 + (3 + 11) + 22 ≤ R.locals) (hC : cells ≤ R.cells ∧ slots ≤ R.slots) (h8 : (rest.map fun v => v.category).sum ≤ 8) (hdg : decode cc pc = .ok (.invokevirtual index, 3)) (kk : ∀ (H1 : Heap) (locs1 : List Loc), WD E ad (M, Nr) H1 → va_S (ow E) s.heap H1 locs1 → W p l e R s m args below meth c H1 locs1 cells slots Q (F0 m (pc + 3) ls (.int r :: rest))) : W p l e R s m args below meth c H locs cells slots Q (F0 m pc ls (.int x1 :: .ref (ad 20 0) :: rest)) := by
  refine va_calli (va_runV (C := RX9) (As := [.int x1]) (rest := rest) ⟨X.1, X.2.1, X.2.2.1, X.2.2.2.1, X.2.2.2.2.1⟩ (c_yX9_rule l E ad M N x1 r Nr hf) (cwV 1 X.2.2.2.2.1 (gV hn im_yX9_rule se_yX9_rule iniRX9 cd_yX9_rule) rfl rfl rfl (by decide +kernel) hR) ⟨fun a U g mk q => ⟨q.1, q.2.calling⟩, va_recv hK.1 (hW.at (c := 20) (i := 0) Nat.zero_lt_one rfl) (ci := 9) (q0 := 0) rfl rfl, fun U hU hw => ⟨rfl, PB.at hW hK hZ hS hU hw⟩⟩ rfl rfl hsz rfl (lv_room h8) hdg hC) hS (fun _ _ h => h) (fun _ h => h) (fun r' u t H1 locs1 ht hvm hw hB hz1 hk1 hS1 => ?_)
  obtain ⟨rfl, rfl⟩ := hw
  rw [ht] at hB
  exact kk H1 locs1 hB hS1
def f_yX9_order (N : Mem) (x1 : Int32) : Option (Int32 × Mem) := ob1 (f_yX9_in x1 0 2) (fun r2 => (if r2 = 0 then (some ((-1), N)) else lt1 (mp N 20 0 4 x1) (fun N4 => (some ((N 20 0 4), N4)))))
set_option maxRecDepth 100000 in
set_option maxHeartbeats 4000000 in
theorem c_yX9_order (l : Launch) (E : Lay) (ad : Nat → Nat → Nat) (M N : Mem) (x1 : Int32) (r : Int32) (Nr : Mem) (hf : f_yX9_order N x1 = some (r, Nr)) : Met l yX9_order (Cond.code yX9_order cX9_order 3 (some .int) :: TB) (rmm 1 22) (va_Pc [.ref (ad 20 0), .int x1] (PB E ad (M, N))) (Qi E ad r (M, Nr)) 0 0 (ow E) := by
  refine Met.ofW (cc := cX9_order) (maxL := 3) (ret := (some .int)) (by decide) rfl ?_
  intro p e s m args below meth c s₁ B hml hv
  obtain ⟨rfl, hW, hK, hZ⟩ := hv
  have hT : ∀ w ∈ TB, w.before _ s = true := fun w h => atoms_spec (ws := (Cond.code yX9_order cX9_order 3 (some .int) :: TB)) B.pre w (List.mem_cons_of_mem _ h)
  have X : CX p s m _ meth c cX9_order 3 (some .int) RX9 := ⟨B.exec, B.bytes, hml, findClass_of_methodNamed B.named, hT, B.returns, B.notSynchronized⟩
  obtain ⟨hx, hb, hml, hown, hT, hr, hlk⟩ := id X
  have hS : va_S (ow E) s.heap s.heap [] := va_S.rf
  have hl := lv_entry ([.ref (ad 20 0), .int x1]) (n := 3) (Nat.le_of_ble_eq_true rfl)
  rw [lg_entry_eq]
  generalize (lg_sl ([.ref (ad 20 0), .int x1]) ++ List.replicate (3 - (lg_sl ([.ref (ad 20 0), .int x1])).length) Slot.unset).toArray = ls at hl ⊢
  have hl : lv_has ls 3 [(0, .ref (ad 20 0)), (1, .int x1)] := hl
  unfold f_yX9_order at hf
  refine lv_iload_n hx hb dX9_order_0 rfl (lv_at hl 1 rfl) ?_
  refine lv_iconst (v := 0) hx hb dX9_order_1 (by decide) ?_
  refine lv_iconst (v := 2) hx hb dX9_order_2 (by decide) ?_
  obtain ⟨r2, h1, hf⟩ := ob1_some hf
  refine k_yX9_in X hK hZ hW hS hl.1 h1 mlRX9_114 ⟨Nat.le_of_ble_eq_true rfl, Nat.le_of_ble_eq_true rfl⟩ ⟨Nat.le_of_ble_eq_true rfl, Nat.le_of_ble_eq_true rfl⟩ (Nat.le_of_ble_eq_true rfl) dX9_order_3 (fun H locs hW hS => ?_)
  refine lv_if_ne (tgt := 11) hx hb dX9_order_6 (by decide) (fun c3 => ?_) (fun c3 => ?_)
  · rw [if_neg c3] at hf
    refine lv_aload_n hx hb dX9_order_11 rfl (lv_at hl 0 rfl) ?_
    refine g_9_34 X hK hW flRX9_162 dX9_order_12 ?_
    refine lv_istore_n (lv' := [(2, .int (N 20 0 4)), (0, .ref (ad 20 0)), (1, .int x1)]) hx hb dX9_order_15 rfl hl (by decide) rfl (fun ls hl => ?_)
    refine lv_aload_n hx hb dX9_order_16 rfl (lv_at hl 1 rfl) ?_
    refine lv_iload_n hx hb dX9_order_17 rfl (lv_at hl 2 rfl) ?_
    obtain ⟨N4, hN4, hf⟩ := lt1_some hf
    refine p_9_34 X hK hW hS hN4 flRX9_162 dX9_order_18 (fun H locs hW hS => ?_)
    refine lv_iload_n hx hb dX9_order_21 rfl (lv_at hl 0 rfl) ?_
    obtain ⟨rfl, rfl⟩ := sp2 hf
    exact e_i ⟨hx, hb, hr, hlk⟩ hW hS dX9_order_22
  · rw [if_pos c3] at hf
    refine lv_iconst (v := -1) hx hb dX9_order_9 (by decide) ?_
    obtain ⟨rfl, rfl⟩ := sp2 hf
    exact e_i ⟨hx, hb, hr, hlk⟩ hW hS dX9_order_10
set_option maxRecDepth 100000 in
set_option maxHeartbeats 4000000 in
theorem k_yX9_order {p : Program} {l : Launch} {e : Env} {R : Room} {s : State} {m : MethodId} {args : Array Value} {below : List Frame} {meth : Method} {c : Code} {H : Heap} {locs : List Loc} {cells slots : Nat} {Q : State → Prop} {cc : ByteArray} {pc nL index : Nat} {ret : Option FieldType} {own : String} {ls : Array Slot} {rest : List Value} {E : Lay} {ad : Nat → Nat → Nat} {M N : Mem} (X : CX p s m args meth c cc nL ret own) (hK : KK E s) (hZ : ZZ E s) (hW : WD E ad (M, N) H) (hS : va_S (ow E) s.heap H locs) (hsz : ls.size = nL) {x1 : Int32} {r : Int32} {Nr : Mem} (hf : f_yX9_order N x1 = some (r, Nr)) (hn : Cond.methodLink own index yX9_order ∈ TB) (hR : 1 + 1 ≤ R.frames ∧ 8 + (3 + 11) + 22 ≤ R.locals) (hC : cells ≤ R.cells ∧ slots ≤ R.slots) (h8 : (rest.map fun v => v.category).sum ≤ 8) (hdg : decode cc pc = .ok (.invokevirtual index, 3)) (kk : ∀ (H1 : Heap) (locs1 : List Loc), WD E ad (M, Nr) H1 → va_S (ow E) s.heap H1 locs1 → W p l e R s m args below meth c H1 locs1 cells slots Q (F0 m (pc + 3) ls (.int r :: rest))) : W p l e R s m args below meth c H locs cells slots Q (F0 m pc ls (.int x1 :: .ref (ad 20 0) :: rest)) := by
  refine va_calli (va_runV (C := RX9) (As := [.int x1]) (rest := rest) ⟨X.1, X.2.1, X.2.2.1, X.2.2.2.1, X.2.2.2.2.1⟩ (c_yX9_order l E ad M N x1 r Nr hf) (cwV 1 X.2.2.2.2.1 (gV hn im_yX9_order se_yX9_order iniRX9 cd_yX9_order) rfl rfl rfl (by decide +kernel) hR) ⟨fun a U g mk q => ⟨q.1, q.2.calling⟩, va_recv hK.1 (hW.at (c := 20) (i := 0) Nat.zero_lt_one rfl) (ci := 9) (q0 := 0) rfl rfl, fun U hU hw => ⟨rfl, PB.at hW hK hZ hS hU hw⟩⟩ rfl rfl hsz rfl (lv_room h8) hdg hC) hS (fun _ _ h => h) (fun _ h => h) (fun r' u t H1 locs1 ht hvm hw hB hz1 hk1 hS1 => ?_)
  obtain ⟨rfl, rfl⟩ := hw
  rw [ht] at hB
  exact kk H1 locs1 hB hS1
def f_yX9_still_L6 : Nat → Mem → Int32 → Int32 → Int32 → Option (Int32)
  | 0, _, _, _, _ => none
  | n + 1, N0, y1, y2, y3 => (if 6 ≤ y3 then (if y1 = 0 then (some (-7)) else (if y2 = 0 then (some (-6)) else (some 0))) else (if y1 = 0 then ob1 (f_yX9_isUnderWay N0 y3) (fun r13 => (if r13 = 0 then (if y2 = 0 then gd (¬ (y3 < 0 ∨ 6 ≤ y3.toNatClampNeg)) ((if (N0 31 0 y3.toNatClampNeg) = 2 then (f_yX9_still_L6 n N0 0 1 (y3 + 1)) else ob1 (f_yX9_isUnderWay N0 y3) (fun r19 => (if r19 = 0 then (f_yX9_still_L6 n N0 0 0 (y3 + 1)) else (if (N0 40 0 y3.toNatClampNeg) = (-4) then (f_yX9_still_L6 n N0 0 0 (y3 + 1)) else (f_yX9_still_L6 n N0 0 1 (y3 + 1))))))) else (f_yX9_still_L6 n N0 0 1 (y3 + 1))) else (if y2 = 0 then gd (¬ (y3 < 0 ∨ 6 ≤ y3.toNatClampNeg)) ((if (N0 31 0 y3.toNatClampNeg) = 2 then (f_yX9_still_L6 n N0 1 1 (y3 + 1)) else ob1 (f_yX9_isUnderWay N0 y3) (fun r26 => (if r26 = 0 then (f_yX9_still_L6 n N0 1 0 (y3 + 1)) else (if (N0 40 0 y3.toNatClampNeg) = (-4) then (f_yX9_still_L6 n N0 1 0 (y3 + 1)) else (f_yX9_still_L6 n N0 1 1 (y3 + 1))))))) else (f_yX9_still_L6 n N0 1 1 (y3 + 1))))) else (if y2 = 0 then gd (¬ (y3 < 0 ∨ 6 ≤ y3.toNatClampNeg)) ((if (N0 31 0 y3.toNatClampNeg) = 2 then (f_yX9_still_L6 n N0 1 1 (y3 + 1)) else ob1 (f_yX9_isUnderWay N0 y3) (fun r9 => (if r9 = 0 then (f_yX9_still_L6 n N0 1 0 (y3 + 1)) else (if (N0 40 0 y3.toNatClampNeg) = (-4) then (f_yX9_still_L6 n N0 1 0 (y3 + 1)) else (f_yX9_still_L6 n N0 1 1 (y3 + 1))))))) else (f_yX9_still_L6 n N0 1 1 (y3 + 1)))))
def f_yX9_still (N : Mem) : Option (Int32) := (f_yX9_still_L6 70 N 0 0 0)
set_option maxRecDepth 100000 in
set_option maxHeartbeats 4000000 in
theorem l_yX9_still_6 (l : Launch) (E : Lay) (ad : Nat → Nat → Nat) (M : Mem) {p : Program} {e : Env} {s : State} {m : MethodId} {args : Array Value} {below : List Frame} {meth : Method} {c : Code} (X : CX p s m args meth c cX9_still 4 (some .int) RX9) (hK : KK E s) (hZ : ZZ E s) : ∀ (n : Nat) (N0 : Mem) (y1 : Int32) (y2 : Int32) (y3 : Int32) (r : Int32) (hf : f_yX9_still_L6 n N0 y1 y2 y3 = some r) (H : Heap) (locs : List Loc) (ls : Array Slot), WD E ad (M, N0) H → va_S (ow E) s.heap H locs → lv_has ls 4 [(0, .ref (ad 20 0)), (1, .int y1), (2, .int y2), (3, .int y3)] → W p l e (rmm 2 43) s m args below meth c H locs 0 0 (MQ below (Qi E ad r (M, N0)) args s 0 0 (ow E)) (F0 m 6 ls []) := by
  obtain ⟨hx, hb, hml, hown, hT, hr, hlk⟩ := id X
  intro n
  induction n with
  | zero =>
    intro N0 y1 y2 y3 r hf
    rw [f_yX9_still_L6] at hf
    cases hf
  | succ n ih =>
    intro N0 y1 y2 y3 r hf H locs ls hW hS hl
    rw [f_yX9_still_L6] at hf
    refine lv_iload_n hx hb dX9_still_6 rfl (lv_at hl 3 rfl) ?_
    refine lv_bipush (v := 6) hx hb dX9_still_7 (by decide) ?_
    refine lv_icmp_ge (tgt := 75) hx hb dX9_still_9 (by decide) (fun c1 => ?_) (fun c1 => ?_)
    · rw [if_pos c1] at hf
      refine lv_iload_n hx hb dX9_still_75 rfl (lv_at hl 1 rfl) ?_
      refine lv_if_ne (tgt := 84) hx hb dX9_still_76 (by decide) (fun c2 => ?_) (fun c2 => ?_)
      · rw [if_neg c2] at hf
        refine lv_iload_n hx hb dX9_still_84 rfl (lv_at hl 2 rfl) ?_
        refine lv_if_eq (tgt := 92) hx hb dX9_still_85 (by decide) (fun c3 => ?_) (fun c3 => ?_)
        · rw [if_pos c3] at hf
          refine lv_bipush (v := -6) hx hb dX9_still_92 (by decide) ?_
          obtain rfl := sp1 hf
          exact e_i ⟨hx, hb, hr, hlk⟩ hW hS dX9_still_94
        · rw [if_neg c3] at hf
          refine lv_iconst (v := 0) hx hb dX9_still_88 (by decide) ?_
          refine lv_goto (tgt := 94) hx hb dX9_still_89 (by decide) ?_
          obtain rfl := sp1 hf
          exact e_i ⟨hx, hb, hr, hlk⟩ hW hS dX9_still_94
      · rw [if_pos c2] at hf
        refine lv_bipush (v := -7) hx hb dX9_still_79 (by decide) ?_
        refine lv_goto (tgt := 94) hx hb dX9_still_81 (by decide) ?_
        obtain rfl := sp1 hf
        exact e_i ⟨hx, hb, hr, hlk⟩ hW hS dX9_still_94
    · rw [if_neg c1] at hf
      refine lv_iload_n hx hb dX9_still_12 rfl (lv_at hl 1 rfl) ?_
      refine lv_if_ne (tgt := 24) hx hb dX9_still_13 (by decide) (fun c4 => ?_) (fun c4 => ?_)
      · rw [if_neg c4] at hf
        refine lv_iconst (v := 1) hx hb dX9_still_24 (by decide) ?_
        refine lv_goto (tgt := 29) hx hb dX9_still_25 (by decide) ?_
        refine lv_istore_n (lv' := [(1, .int 1), (0, .ref (ad 20 0)), (2, .int y2), (3, .int y3)]) hx hb dX9_still_29 rfl hl (by decide) rfl (fun ls hl => ?_)
        refine lv_iload_n hx hb dX9_still_30 rfl (lv_at hl 2 rfl) ?_
        refine lv_if_ne (tgt := 63) hx hb dX9_still_31 (by decide) (fun c5 => ?_) (fun c5 => ?_)
        · rw [if_neg c5] at hf
          refine lv_iconst (v := 1) hx hb dX9_still_63 (by decide) ?_
          refine lv_goto (tgt := 68) hx hb dX9_still_64 (by decide) ?_
          refine lv_istore_n (lv' := [(2, .int 1), (1, .int 1), (0, .ref (ad 20 0)), (3, .int y3)]) hx hb dX9_still_68 rfl hl (by decide) rfl (fun ls hl => ?_)
          refine lv_iinc (v := (y3 + 1)) (lv' := [(3, .int (y3 + 1)), (2, .int 1), (1, .int 1), (0, .ref (ad 20 0))]) hx hb dX9_still_69 hl (k := 3) rfl rfl (by decide) rfl (fun ls hl => ?_)
          refine lv_goto (tgt := 6) hx hb dX9_still_72 (by decide) ?_
          exact ih _ _ _ _ _ hf _ _ _ hW hS (lv_sub hl [3, 2, 1, 0] rfl)
        · rw [if_pos c5] at hf
          refine lv_aload_n hx hb dX9_still_34 rfl (lv_at hl 1 rfl) ?_
          refine g_9_12 X hK hW flRX9_40 dX9_still_35 ?_
          refine lv_iload_n hx hb dX9_still_38 rfl (lv_at hl 3 rfl) ?_
          obtain ⟨b6, hf⟩ := gd_some hf
          refine al_31 X hK hW b6 dX9_still_39 ?_
          refine lv_iconst (v := 2) hx hb dX9_still_40 (by decide) ?_
          refine lv_icmp_eq (tgt := 63) hx hb dX9_still_41 (by decide) (fun c7 => ?_) (fun c7 => ?_)
          · rw [if_pos c7] at hf
            refine lv_iconst (v := 1) hx hb dX9_still_63 (by decide) ?_
            refine lv_goto (tgt := 68) hx hb dX9_still_64 (by decide) ?_
            refine lv_istore_n (lv' := [(2, .int 1), (1, .int 1), (0, .ref (ad 20 0)), (3, .int y3)]) hx hb dX9_still_68 rfl hl (by decide) rfl (fun ls hl => ?_)
            refine lv_iinc (v := (y3 + 1)) (lv' := [(3, .int (y3 + 1)), (2, .int 1), (1, .int 1), (0, .ref (ad 20 0))]) hx hb dX9_still_69 hl (k := 3) rfl rfl (by decide) rfl (fun ls hl => ?_)
            refine lv_goto (tgt := 6) hx hb dX9_still_72 (by decide) ?_
            exact ih _ _ _ _ _ hf _ _ _ hW hS (lv_sub hl [3, 2, 1, 0] rfl)
          · rw [if_neg c7] at hf
            refine lv_aload_n hx hb dX9_still_44 rfl (lv_at hl 1 rfl) ?_
            refine lv_iload_n hx hb dX9_still_45 rfl (lv_at hl 3 rfl) ?_
            obtain ⟨r9, h8, hf⟩ := ob1_some hf
            refine k_yX9_isUnderWay X hK hZ hW hS hl.1 h8 mlRX9_143 ⟨Nat.le_of_ble_eq_true rfl, Nat.le_of_ble_eq_true rfl⟩ ⟨Nat.le_of_ble_eq_true rfl, Nat.le_of_ble_eq_true rfl⟩ (Nat.le_of_ble_eq_true rfl) dX9_still_46 (fun H locs hW hS => ?_)
            refine lv_if_eq (tgt := 67) hx hb dX9_still_49 (by decide) (fun c10 => ?_) (fun c10 => ?_)
            · rw [if_pos c10] at hf
              refine lv_iconst (v := 0) hx hb dX9_still_67 (by decide) ?_
              refine lv_istore_n (lv' := [(2, .int 0), (1, .int 1), (0, .ref (ad 20 0)), (3, .int y3)]) hx hb dX9_still_68 rfl hl (by decide) rfl (fun ls hl => ?_)
              refine lv_iinc (v := (y3 + 1)) (lv' := [(3, .int (y3 + 1)), (2, .int 0), (1, .int 1), (0, .ref (ad 20 0))]) hx hb dX9_still_69 hl (k := 3) rfl rfl (by decide) rfl (fun ls hl => ?_)
              refine lv_goto (tgt := 6) hx hb dX9_still_72 (by decide) ?_
              exact ih _ _ _ _ _ hf _ _ _ hW hS (lv_sub hl [3, 2, 1, 0] rfl)
            · rw [if_neg c10] at hf
              refine lv_aload_n hx hb dX9_still_52 rfl (lv_at hl 1 rfl) ?_
              refine g_9_21 X hK hW flRX9_68 dX9_still_53 ?_
              refine lv_iload_n hx hb dX9_still_56 rfl (lv_at hl 3 rfl) ?_
              refine al_40 X hK hW b6 dX9_still_57 ?_
              refine lv_bipush (v := -4) hx hb dX9_still_58 (by decide) ?_
              refine lv_icmp_eq (tgt := 67) hx hb dX9_still_60 (by decide) (fun c11 => ?_) (fun c11 => ?_)
              · rw [if_pos c11] at hf
                refine lv_iconst (v := 0) hx hb dX9_still_67 (by decide) ?_
                refine lv_istore_n (lv' := [(2, .int 0), (1, .int 1), (0, .ref (ad 20 0)), (3, .int y3)]) hx hb dX9_still_68 rfl hl (by decide) rfl (fun ls hl => ?_)
                refine lv_iinc (v := (y3 + 1)) (lv' := [(3, .int (y3 + 1)), (2, .int 0), (1, .int 1), (0, .ref (ad 20 0))]) hx hb dX9_still_69 hl (k := 3) rfl rfl (by decide) rfl (fun ls hl => ?_)
                refine lv_goto (tgt := 6) hx hb dX9_still_72 (by decide) ?_
                exact ih _ _ _ _ _ hf _ _ _ hW hS (lv_sub hl [3, 2, 1, 0] rfl)
              · rw [if_neg c11] at hf
                refine lv_iconst (v := 1) hx hb dX9_still_63 (by decide) ?_
                refine lv_goto (tgt := 68) hx hb dX9_still_64 (by decide) ?_
                refine lv_istore_n (lv' := [(2, .int 1), (1, .int 1), (0, .ref (ad 20 0)), (3, .int y3)]) hx hb dX9_still_68 rfl hl (by decide) rfl (fun ls hl => ?_)
                refine lv_iinc (v := (y3 + 1)) (lv' := [(3, .int (y3 + 1)), (2, .int 1), (1, .int 1), (0, .ref (ad 20 0))]) hx hb dX9_still_69 hl (k := 3) rfl rfl (by decide) rfl (fun ls hl => ?_)
                refine lv_goto (tgt := 6) hx hb dX9_still_72 (by decide) ?_
                exact ih _ _ _ _ _ hf _ _ _ hW hS (lv_sub hl [3, 2, 1, 0] rfl)
      · rw [if_pos c4] at hf
        refine lv_aload_n hx hb dX9_still_16 rfl (lv_at hl 0 rfl) ?_
        refine lv_iload_n hx hb dX9_still_17 rfl (lv_at hl 3 rfl) ?_
        obtain ⟨r13, h12, hf⟩ := ob1_some hf
        refine k_yX9_isUnderWay X hK hZ hW hS hl.1 h12 mlRX9_143 ⟨Nat.le_of_ble_eq_true rfl, Nat.le_of_ble_eq_true rfl⟩ ⟨Nat.le_of_ble_eq_true rfl, Nat.le_of_ble_eq_true rfl⟩ (Nat.le_of_ble_eq_true rfl) dX9_still_18 (fun H locs hW hS => ?_)
        refine lv_if_eq (tgt := 28) hx hb dX9_still_21 (by decide) (fun c14 => ?_) (fun c14 => ?_)
        · rw [if_pos c14] at hf
          refine lv_iconst (v := 0) hx hb dX9_still_28 (by decide) ?_
          refine lv_istore_n (lv' := [(1, .int 0), (0, .ref (ad 20 0)), (2, .int y2), (3, .int y3)]) hx hb dX9_still_29 rfl hl (by decide) rfl (fun ls hl => ?_)
          refine lv_iload_n hx hb dX9_still_30 rfl (lv_at hl 2 rfl) ?_
          refine lv_if_ne (tgt := 63) hx hb dX9_still_31 (by decide) (fun c15 => ?_) (fun c15 => ?_)
          · rw [if_neg c15] at hf
            refine lv_iconst (v := 1) hx hb dX9_still_63 (by decide) ?_
            refine lv_goto (tgt := 68) hx hb dX9_still_64 (by decide) ?_
            refine lv_istore_n (lv' := [(2, .int 1), (1, .int 0), (0, .ref (ad 20 0)), (3, .int y3)]) hx hb dX9_still_68 rfl hl (by decide) rfl (fun ls hl => ?_)
            refine lv_iinc (v := (y3 + 1)) (lv' := [(3, .int (y3 + 1)), (2, .int 1), (1, .int 0), (0, .ref (ad 20 0))]) hx hb dX9_still_69 hl (k := 3) rfl rfl (by decide) rfl (fun ls hl => ?_)
            refine lv_goto (tgt := 6) hx hb dX9_still_72 (by decide) ?_
            exact ih _ _ _ _ _ hf _ _ _ hW hS (lv_sub hl [3, 2, 1, 0] rfl)
          · rw [if_pos c15] at hf
            refine lv_aload_n hx hb dX9_still_34 rfl (lv_at hl 1 rfl) ?_
            refine g_9_12 X hK hW flRX9_40 dX9_still_35 ?_
            refine lv_iload_n hx hb dX9_still_38 rfl (lv_at hl 3 rfl) ?_
            obtain ⟨b16, hf⟩ := gd_some hf
            refine al_31 X hK hW b16 dX9_still_39 ?_
            refine lv_iconst (v := 2) hx hb dX9_still_40 (by decide) ?_
            refine lv_icmp_eq (tgt := 63) hx hb dX9_still_41 (by decide) (fun c17 => ?_) (fun c17 => ?_)
            · rw [if_pos c17] at hf
              refine lv_iconst (v := 1) hx hb dX9_still_63 (by decide) ?_
              refine lv_goto (tgt := 68) hx hb dX9_still_64 (by decide) ?_
              refine lv_istore_n (lv' := [(2, .int 1), (1, .int 0), (0, .ref (ad 20 0)), (3, .int y3)]) hx hb dX9_still_68 rfl hl (by decide) rfl (fun ls hl => ?_)
              refine lv_iinc (v := (y3 + 1)) (lv' := [(3, .int (y3 + 1)), (2, .int 1), (1, .int 0), (0, .ref (ad 20 0))]) hx hb dX9_still_69 hl (k := 3) rfl rfl (by decide) rfl (fun ls hl => ?_)
              refine lv_goto (tgt := 6) hx hb dX9_still_72 (by decide) ?_
              exact ih _ _ _ _ _ hf _ _ _ hW hS (lv_sub hl [3, 2, 1, 0] rfl)
            · rw [if_neg c17] at hf
              refine lv_aload_n hx hb dX9_still_44 rfl (lv_at hl 1 rfl) ?_
              refine lv_iload_n hx hb dX9_still_45 rfl (lv_at hl 3 rfl) ?_
              obtain ⟨r19, h18, hf⟩ := ob1_some hf
              refine k_yX9_isUnderWay X hK hZ hW hS hl.1 h18 mlRX9_143 ⟨Nat.le_of_ble_eq_true rfl, Nat.le_of_ble_eq_true rfl⟩ ⟨Nat.le_of_ble_eq_true rfl, Nat.le_of_ble_eq_true rfl⟩ (Nat.le_of_ble_eq_true rfl) dX9_still_46 (fun H locs hW hS => ?_)
              refine lv_if_eq (tgt := 67) hx hb dX9_still_49 (by decide) (fun c20 => ?_) (fun c20 => ?_)
              · rw [if_pos c20] at hf
                refine lv_iconst (v := 0) hx hb dX9_still_67 (by decide) ?_
                refine lv_istore_n (lv' := [(2, .int 0), (1, .int 0), (0, .ref (ad 20 0)), (3, .int y3)]) hx hb dX9_still_68 rfl hl (by decide) rfl (fun ls hl => ?_)
                refine lv_iinc (v := (y3 + 1)) (lv' := [(3, .int (y3 + 1)), (2, .int 0), (1, .int 0), (0, .ref (ad 20 0))]) hx hb dX9_still_69 hl (k := 3) rfl rfl (by decide) rfl (fun ls hl => ?_)
                refine lv_goto (tgt := 6) hx hb dX9_still_72 (by decide) ?_
                exact ih _ _ _ _ _ hf _ _ _ hW hS (lv_sub hl [3, 2, 1, 0] rfl)
              · rw [if_neg c20] at hf
                refine lv_aload_n hx hb dX9_still_52 rfl (lv_at hl 1 rfl) ?_
                refine g_9_21 X hK hW flRX9_68 dX9_still_53 ?_
                refine lv_iload_n hx hb dX9_still_56 rfl (lv_at hl 3 rfl) ?_
                refine al_40 X hK hW b16 dX9_still_57 ?_
                refine lv_bipush (v := -4) hx hb dX9_still_58 (by decide) ?_
                refine lv_icmp_eq (tgt := 67) hx hb dX9_still_60 (by decide) (fun c21 => ?_) (fun c21 => ?_)
                · rw [if_pos c21] at hf
                  refine lv_iconst (v := 0) hx hb dX9_still_67 (by decide) ?_
                  refine lv_istore_n (lv' := [(2, .int 0), (1, .int 0), (0, .ref (ad 20 0)), (3, .int y3)]) hx hb dX9_still_68 rfl hl (by decide) rfl (fun ls hl => ?_)
                  refine lv_iinc (v := (y3 + 1)) (lv' := [(3, .int (y3 + 1)), (2, .int 0), (1, .int 0), (0, .ref (ad 20 0))]) hx hb dX9_still_69 hl (k := 3) rfl rfl (by decide) rfl (fun ls hl => ?_)
                  refine lv_goto (tgt := 6) hx hb dX9_still_72 (by decide) ?_
                  exact ih _ _ _ _ _ hf _ _ _ hW hS (lv_sub hl [3, 2, 1, 0] rfl)
                · rw [if_neg c21] at hf
                  refine lv_iconst (v := 1) hx hb dX9_still_63 (by decide) ?_
                  refine lv_goto (tgt := 68) hx hb dX9_still_64 (by decide) ?_
                  refine lv_istore_n (lv' := [(2, .int 1), (1, .int 0), (0, .ref (ad 20 0)), (3, .int y3)]) hx hb dX9_still_68 rfl hl (by decide) rfl (fun ls hl => ?_)
                  refine lv_iinc (v := (y3 + 1)) (lv' := [(3, .int (y3 + 1)), (2, .int 1), (1, .int 0), (0, .ref (ad 20 0))]) hx hb dX9_still_69 hl (k := 3) rfl rfl (by decide) rfl (fun ls hl => ?_)
                  refine lv_goto (tgt := 6) hx hb dX9_still_72 (by decide) ?_
                  exact ih _ _ _ _ _ hf _ _ _ hW hS (lv_sub hl [3, 2, 1, 0] rfl)
        · rw [if_neg c14] at hf
          refine lv_iconst (v := 1) hx hb dX9_still_24 (by decide) ?_
          refine lv_goto (tgt := 29) hx hb dX9_still_25 (by decide) ?_
          refine lv_istore_n (lv' := [(1, .int 1), (0, .ref (ad 20 0)), (2, .int y2), (3, .int y3)]) hx hb dX9_still_29 rfl hl (by decide) rfl (fun ls hl => ?_)
          refine lv_iload_n hx hb dX9_still_30 rfl (lv_at hl 2 rfl) ?_
          refine lv_if_ne (tgt := 63) hx hb dX9_still_31 (by decide) (fun c22 => ?_) (fun c22 => ?_)
          · rw [if_neg c22] at hf
            refine lv_iconst (v := 1) hx hb dX9_still_63 (by decide) ?_
            refine lv_goto (tgt := 68) hx hb dX9_still_64 (by decide) ?_
            refine lv_istore_n (lv' := [(2, .int 1), (1, .int 1), (0, .ref (ad 20 0)), (3, .int y3)]) hx hb dX9_still_68 rfl hl (by decide) rfl (fun ls hl => ?_)
            refine lv_iinc (v := (y3 + 1)) (lv' := [(3, .int (y3 + 1)), (2, .int 1), (1, .int 1), (0, .ref (ad 20 0))]) hx hb dX9_still_69 hl (k := 3) rfl rfl (by decide) rfl (fun ls hl => ?_)
            refine lv_goto (tgt := 6) hx hb dX9_still_72 (by decide) ?_
            exact ih _ _ _ _ _ hf _ _ _ hW hS (lv_sub hl [3, 2, 1, 0] rfl)
          · rw [if_pos c22] at hf
            refine lv_aload_n hx hb dX9_still_34 rfl (lv_at hl 1 rfl) ?_
            refine g_9_12 X hK hW flRX9_40 dX9_still_35 ?_
            refine lv_iload_n hx hb dX9_still_38 rfl (lv_at hl 3 rfl) ?_
            obtain ⟨b23, hf⟩ := gd_some hf
            refine al_31 X hK hW b23 dX9_still_39 ?_
            refine lv_iconst (v := 2) hx hb dX9_still_40 (by decide) ?_
            refine lv_icmp_eq (tgt := 63) hx hb dX9_still_41 (by decide) (fun c24 => ?_) (fun c24 => ?_)
            · rw [if_pos c24] at hf
              refine lv_iconst (v := 1) hx hb dX9_still_63 (by decide) ?_
              refine lv_goto (tgt := 68) hx hb dX9_still_64 (by decide) ?_
              refine lv_istore_n (lv' := [(2, .int 1), (1, .int 1), (0, .ref (ad 20 0)), (3, .int y3)]) hx hb dX9_still_68 rfl hl (by decide) rfl (fun ls hl => ?_)
              refine lv_iinc (v := (y3 + 1)) (lv' := [(3, .int (y3 + 1)), (2, .int 1), (1, .int 1), (0, .ref (ad 20 0))]) hx hb dX9_still_69 hl (k := 3) rfl rfl (by decide) rfl (fun ls hl => ?_)
              refine lv_goto (tgt := 6) hx hb dX9_still_72 (by decide) ?_
              exact ih _ _ _ _ _ hf _ _ _ hW hS (lv_sub hl [3, 2, 1, 0] rfl)
            · rw [if_neg c24] at hf
              refine lv_aload_n hx hb dX9_still_44 rfl (lv_at hl 1 rfl) ?_
              refine lv_iload_n hx hb dX9_still_45 rfl (lv_at hl 3 rfl) ?_
              obtain ⟨r26, h25, hf⟩ := ob1_some hf
              refine k_yX9_isUnderWay X hK hZ hW hS hl.1 h25 mlRX9_143 ⟨Nat.le_of_ble_eq_true rfl, Nat.le_of_ble_eq_true rfl⟩ ⟨Nat.le_of_ble_eq_true rfl, Nat.le_of_ble_eq_true rfl⟩ (Nat.le_of_ble_eq_true rfl) dX9_still_46 (fun H locs hW hS => ?_)
              refine lv_if_eq (tgt := 67) hx hb dX9_still_49 (by decide) (fun c27 => ?_) (fun c27 => ?_)
              · rw [if_pos c27] at hf
                refine lv_iconst (v := 0) hx hb dX9_still_67 (by decide) ?_
                refine lv_istore_n (lv' := [(2, .int 0), (1, .int 1), (0, .ref (ad 20 0)), (3, .int y3)]) hx hb dX9_still_68 rfl hl (by decide) rfl (fun ls hl => ?_)
                refine lv_iinc (v := (y3 + 1)) (lv' := [(3, .int (y3 + 1)), (2, .int 0), (1, .int 1), (0, .ref (ad 20 0))]) hx hb dX9_still_69 hl (k := 3) rfl rfl (by decide) rfl (fun ls hl => ?_)
                refine lv_goto (tgt := 6) hx hb dX9_still_72 (by decide) ?_
                exact ih _ _ _ _ _ hf _ _ _ hW hS (lv_sub hl [3, 2, 1, 0] rfl)
              · rw [if_neg c27] at hf
                refine lv_aload_n hx hb dX9_still_52 rfl (lv_at hl 1 rfl) ?_
                refine g_9_21 X hK hW flRX9_68 dX9_still_53 ?_
                refine lv_iload_n hx hb dX9_still_56 rfl (lv_at hl 3 rfl) ?_
                refine al_40 X hK hW b23 dX9_still_57 ?_
                refine lv_bipush (v := -4) hx hb dX9_still_58 (by decide) ?_
                refine lv_icmp_eq (tgt := 67) hx hb dX9_still_60 (by decide) (fun c28 => ?_) (fun c28 => ?_)
                · rw [if_pos c28] at hf
                  refine lv_iconst (v := 0) hx hb dX9_still_67 (by decide) ?_
                  refine lv_istore_n (lv' := [(2, .int 0), (1, .int 1), (0, .ref (ad 20 0)), (3, .int y3)]) hx hb dX9_still_68 rfl hl (by decide) rfl (fun ls hl => ?_)
                  refine lv_iinc (v := (y3 + 1)) (lv' := [(3, .int (y3 + 1)), (2, .int 0), (1, .int 1), (0, .ref (ad 20 0))]) hx hb dX9_still_69 hl (k := 3) rfl rfl (by decide) rfl (fun ls hl => ?_)
                  refine lv_goto (tgt := 6) hx hb dX9_still_72 (by decide) ?_
                  exact ih _ _ _ _ _ hf _ _ _ hW hS (lv_sub hl [3, 2, 1, 0] rfl)
                · rw [if_neg c28] at hf
                  refine lv_iconst (v := 1) hx hb dX9_still_63 (by decide) ?_
                  refine lv_goto (tgt := 68) hx hb dX9_still_64 (by decide) ?_
                  refine lv_istore_n (lv' := [(2, .int 1), (1, .int 1), (0, .ref (ad 20 0)), (3, .int y3)]) hx hb dX9_still_68 rfl hl (by decide) rfl (fun ls hl => ?_)
                  refine lv_iinc (v := (y3 + 1)) (lv' := [(3, .int (y3 + 1)), (2, .int 1), (1, .int 1), (0, .ref (ad 20 0))]) hx hb dX9_still_69 hl (k := 3) rfl rfl (by decide) rfl (fun ls hl => ?_)
                  refine lv_goto (tgt := 6) hx hb dX9_still_72 (by decide) ?_
                  exact ih _ _ _ _ _ hf _ _ _ hW hS (lv_sub hl [3, 2, 1, 0] rfl)
set_option maxRecDepth 100000 in
set_option maxHeartbeats 4000000 in
theorem c_yX9_still (l : Launch) (E : Lay) (ad : Nat → Nat → Nat) (M N : Mem) (r : Int32) (hf : f_yX9_still N = some r) : Met l yX9_still (Cond.code yX9_still cX9_still 4 (some .int) :: TB) (rmm 2 43) (va_Pc [.ref (ad 20 0)] (PB E ad (M, N))) (Qi E ad r (M, N)) 0 0 (ow E) := by
  refine Met.ofW (cc := cX9_still) (maxL := 4) (ret := (some .int)) (by decide) rfl ?_
  intro p e s m args below meth c s₁ B hml hv
  obtain ⟨rfl, hW, hK, hZ⟩ := hv
  have hT : ∀ w ∈ TB, w.before _ s = true := fun w h => atoms_spec (ws := (Cond.code yX9_still cX9_still 4 (some .int) :: TB)) B.pre w (List.mem_cons_of_mem _ h)
  have X : CX p s m _ meth c cX9_still 4 (some .int) RX9 := ⟨B.exec, B.bytes, hml, findClass_of_methodNamed B.named, hT, B.returns, B.notSynchronized⟩
  obtain ⟨hx, hb, hml, hown, hT, hr, hlk⟩ := id X
  have hS : va_S (ow E) s.heap s.heap [] := va_S.rf
  have hl := lv_entry ([.ref (ad 20 0)]) (n := 4) (Nat.le_of_ble_eq_true rfl)
  rw [lg_entry_eq]
  generalize (lg_sl ([.ref (ad 20 0)]) ++ List.replicate (4 - (lg_sl ([.ref (ad 20 0)])).length) Slot.unset).toArray = ls at hl ⊢
  have hl : lv_has ls 4 [(0, .ref (ad 20 0))] := hl
  unfold f_yX9_still at hf
  refine lv_iconst (v := 0) hx hb dX9_still_0 (by decide) ?_
  refine lv_istore_n (lv' := [(1, .int 0), (0, .ref (ad 20 0))]) hx hb dX9_still_1 rfl hl (by decide) rfl (fun ls hl => ?_)
  refine lv_iconst (v := 0) hx hb dX9_still_2 (by decide) ?_
  refine lv_istore_n (lv' := [(2, .int 0), (1, .int 0), (0, .ref (ad 20 0))]) hx hb dX9_still_3 rfl hl (by decide) rfl (fun ls hl => ?_)
  refine lv_iconst (v := 0) hx hb dX9_still_4 (by decide) ?_
  refine lv_istore_n (lv' := [(3, .int 0), (2, .int 0), (1, .int 0), (0, .ref (ad 20 0))]) hx hb dX9_still_5 rfl hl (by decide) rfl (fun ls hl => ?_)
  exact (l_yX9_still_6 l E ad M X hK hZ 70) _ _ _ _ _ hf _ _ _ hW hS (lv_sub hl [3, 2, 1, 0] rfl)
set_option maxRecDepth 100000 in
set_option maxHeartbeats 4000000 in
theorem k_yX9_still {p : Program} {l : Launch} {e : Env} {R : Room} {s : State} {m : MethodId} {args : Array Value} {below : List Frame} {meth : Method} {c : Code} {H : Heap} {locs : List Loc} {cells slots : Nat} {Q : State → Prop} {cc : ByteArray} {pc nL index : Nat} {ret : Option FieldType} {own : String} {ls : Array Slot} {rest : List Value} {E : Lay} {ad : Nat → Nat → Nat} {M N : Mem} (X : CX p s m args meth c cc nL ret own) (hK : KK E s) (hZ : ZZ E s) (hW : WD E ad (M, N) H) (hS : va_S (ow E) s.heap H locs) (hsz : ls.size = nL) {r : Int32} (hf : f_yX9_still N = some r) (hn : Cond.methodLink own index yX9_still ∈ TB) (hR : 2 + 1 ≤ R.frames ∧ 8 + (4 + 11) + 43 ≤ R.locals) (hC : cells ≤ R.cells ∧ slots ≤ R.slots) (h8 : (rest.map fun v => v.category).sum ≤ 8) (hdg : decode cc pc = .ok (.invokevirtual index, 3)) (kk : ∀ (H1 : Heap) (locs1 : List Loc), WD E ad (M, N) H1 → va_S (ow E) s.heap H1 locs1 → W p l e R s m args below meth c H1 locs1 cells slots Q (F0 m (pc + 3) ls (.int r :: rest))) : W p l e R s m args below meth c H locs cells slots Q (F0 m pc ls (.ref (ad 20 0) :: rest)) := by
  refine va_calli (va_runV (C := RX9) (As := []) (rest := rest) ⟨X.1, X.2.1, X.2.2.1, X.2.2.2.1, X.2.2.2.2.1⟩ (c_yX9_still l E ad M N r hf) (cwV 0 X.2.2.2.2.1 (gV hn im_yX9_still se_yX9_still iniRX9 cd_yX9_still) rfl rfl rfl (by decide +kernel) hR) ⟨fun a U g mk q => ⟨q.1, q.2.calling⟩, va_recv hK.1 (hW.at (c := 20) (i := 0) Nat.zero_lt_one rfl) (ci := 9) (q0 := 0) rfl rfl, fun U hU hw => ⟨rfl, PB.at hW hK hZ hS hU hw⟩⟩ rfl rfl hsz rfl (lv_room h8) hdg hC) hS (fun _ _ h => h) (fun _ h => h) (fun r' u t H1 locs1 ht hvm hw hB hz1 hk1 hS1 => ?_)
  obtain ⟨rfl, rfl⟩ := hw
  rw [ht] at hB
  exact kk H1 locs1 hB hS1
def f_yX9_chosen_L5 : Nat → Mem → Int32 → Int32 → Option (Int32)
  | 0, _, _, _ => none
  | n + 1, N0, y1, y2 => (if 6 < y2 then (some y1) else (if (N0 20 0 3) = 0 then gd (¬ ((((N0 20 0 5) + y2) - ((N0 20 0 5) + y2) / 6 * 6) < 0 ∨ 6 ≤ (((N0 20 0 5) + y2) - ((N0 20 0 5) + y2) / 6 * 6).toNatClampNeg)) ((if (N0 31 0 (((N0 20 0 5) + y2) - ((N0 20 0 5) + y2) / 6 * 6).toNatClampNeg) = 2 then (if y1 = (-4) then (f_yX9_chosen_L5 n N0 (((N0 20 0 5) + y2) - ((N0 20 0 5) + y2) / 6 * 6) (y2 + 1)) else (f_yX9_chosen_L5 n N0 y1 (y2 + 1))) else (f_yX9_chosen_L5 n N0 y1 (y2 + 1)))) else gd (¬ ((y2 - 1) < 0 ∨ 6 ≤ (y2 - 1).toNatClampNeg)) ((if (N0 31 0 (y2 - 1).toNatClampNeg) = 2 then (if y1 = (-4) then (f_yX9_chosen_L5 n N0 (y2 - 1) (y2 + 1)) else (if (N0 20 0 3) = 1 then gd (¬ (y1 < 0 ∨ 6 ≤ y1.toNatClampNeg)) ((if (N0 33 0 (y2 - 1).toNatClampNeg) ≤ (N0 33 0 y1.toNatClampNeg) then (f_yX9_chosen_L5 n N0 y1 (y2 + 1)) else (f_yX9_chosen_L5 n N0 (y2 - 1) (y2 + 1)))) else (f_yX9_chosen_L5 n N0 y1 (y2 + 1)))) else (f_yX9_chosen_L5 n N0 y1 (y2 + 1))))))
def f_yX9_chosen (N : Mem) : Option (Int32) := (f_yX9_chosen_L5 70 N (-4) 1)
set_option maxRecDepth 100000 in
set_option maxHeartbeats 4000000 in
theorem l_yX9_chosen_5 (l : Launch) (E : Lay) (ad : Nat → Nat → Nat) (M : Mem) {p : Program} {e : Env} {s : State} {m : MethodId} {args : Array Value} {below : List Frame} {meth : Method} {c : Code} (X : CX p s m args meth c cX9_chosen 4 (some .int) RX9) (hK : KK E s) (hZ : ZZ E s) : ∀ (n : Nat) (N0 : Mem) (y1 : Int32) (y2 : Int32) (r : Int32) (hf : f_yX9_chosen_L5 n N0 y1 y2 = some r) (H : Heap) (locs : List Loc) (ls : Array Slot), WD E ad (M, N0) H → va_S (ow E) s.heap H locs → lv_has ls 4 [(0, .ref (ad 20 0)), (1, .int y1), (2, .int y2)] → W p l e (rmm 0 0) s m args below meth c H locs 0 0 (MQ below (Qi E ad r (M, N0)) args s 0 0 (ow E)) (F0 m 5 ls []) := by
  obtain ⟨hx, hb, hml, hown, hT, hr, hlk⟩ := id X
  intro n
  induction n with
  | zero =>
    intro N0 y1 y2 r hf
    rw [f_yX9_chosen_L5] at hf
    cases hf
  | succ n ih =>
    intro N0 y1 y2 r hf H locs ls hW hS hl
    rw [f_yX9_chosen_L5] at hf
    refine lv_iload_n hx hb dX9_chosen_5 rfl (lv_at hl 2 rfl) ?_
    refine lv_bipush (v := 6) hx hb dX9_chosen_6 (by decide) ?_
    refine lv_icmp_gt (tgt := 81) hx hb dX9_chosen_8 (by decide) (fun c1 => ?_) (fun c1 => ?_)
    · rw [if_pos c1] at hf
      refine lv_iload_n hx hb dX9_chosen_81 rfl (lv_at hl 1 rfl) ?_
      obtain rfl := sp1 hf
      exact e_i ⟨hx, hb, hr, hlk⟩ hW hS dX9_chosen_82
    · rw [if_neg c1] at hf
      refine lv_aload_n hx hb dX9_chosen_11 rfl (lv_at hl 0 rfl) ?_
      refine g_9_33 X hK hW flRX9_171 dX9_chosen_12 ?_
      refine lv_if_ne (tgt := 30) hx hb dX9_chosen_15 (by decide) (fun c2 => ?_) (fun c2 => ?_)
      · rw [if_neg c2] at hf
        refine lv_iload_n hx hb dX9_chosen_30 rfl (lv_at hl 2 rfl) ?_
        refine lv_iconst (v := 1) hx hb dX9_chosen_31 (by decide) ?_
        refine lv_isub hx hb dX9_chosen_32 ?_
        refine lv_istore_n (lv' := [(3, .int (y2 - 1)), (0, .ref (ad 20 0)), (1, .int y1), (2, .int y2)]) hx hb dX9_chosen_33 rfl hl (by decide) rfl (fun ls hl => ?_)
        refine lv_aload_n hx hb dX9_chosen_34 rfl (lv_at hl 1 rfl) ?_
        refine g_9_12 X hK hW flRX9_40 dX9_chosen_35 ?_
        refine lv_iload_n hx hb dX9_chosen_38 rfl (lv_at hl 0 rfl) ?_
        obtain ⟨b3, hf⟩ := gd_some hf
        refine al_31 X hK hW b3 dX9_chosen_39 ?_
        refine lv_iconst (v := 2) hx hb dX9_chosen_40 (by decide) ?_
        refine lv_icmp_ne (tgt := 75) hx hb dX9_chosen_41 (by decide) (fun c4 => ?_) (fun c4 => ?_)
        · rw [if_neg c4] at hf
          refine lv_iinc (v := (y2 + 1)) (lv' := [(2, .int (y2 + 1)), (3, .int (y2 - 1)), (0, .ref (ad 20 0)), (1, .int y1)]) hx hb dX9_chosen_75 hl (k := 3) rfl rfl (by decide) rfl (fun ls hl => ?_)
          refine lv_goto (tgt := 5) hx hb dX9_chosen_78 (by decide) ?_
          exact ih _ _ _ _ hf _ _ _ hW hS (lv_sub hl [2, 3, 0] rfl)
        · rw [if_pos c4] at hf
          refine lv_iload_n hx hb dX9_chosen_44 rfl (lv_at hl 2 rfl) ?_
          refine lv_bipush (v := -4) hx hb dX9_chosen_45 (by decide) ?_
          refine lv_icmp_eq (tgt := 73) hx hb dX9_chosen_47 (by decide) (fun c5 => ?_) (fun c5 => ?_)
          · rw [if_pos c5] at hf
            refine lv_iload_n hx hb dX9_chosen_73 rfl (lv_at hl 0 rfl) ?_
            refine lv_istore_n (lv' := [(1, .int (y2 - 1)), (3, .int (y2 - 1)), (0, .ref (ad 20 0)), (2, .int y2)]) hx hb dX9_chosen_74 rfl hl (by decide) rfl (fun ls hl => ?_)
            refine lv_iinc (v := (y2 + 1)) (lv' := [(2, .int (y2 + 1)), (1, .int (y2 - 1)), (3, .int (y2 - 1)), (0, .ref (ad 20 0))]) hx hb dX9_chosen_75 hl (k := 3) rfl rfl (by decide) rfl (fun ls hl => ?_)
            refine lv_goto (tgt := 5) hx hb dX9_chosen_78 (by decide) ?_
            exact ih _ _ _ _ hf _ _ _ hW hS (lv_sub hl [3, 1, 0] rfl)
          · rw [if_neg c5] at hf
            refine lv_aload_n hx hb dX9_chosen_50 rfl (lv_at hl 1 rfl) ?_
            refine g_9_33 X hK hW flRX9_171 dX9_chosen_51 ?_
            refine lv_iconst (v := 1) hx hb dX9_chosen_54 (by decide) ?_
            refine lv_icmp_ne (tgt := 75) hx hb dX9_chosen_55 (by decide) (fun c6 => ?_) (fun c6 => ?_)
            · rw [if_neg c6] at hf
              refine lv_iinc (v := (y2 + 1)) (lv' := [(2, .int (y2 + 1)), (3, .int (y2 - 1)), (0, .ref (ad 20 0)), (1, .int y1)]) hx hb dX9_chosen_75 hl (k := 3) rfl rfl (by decide) rfl (fun ls hl => ?_)
              refine lv_goto (tgt := 5) hx hb dX9_chosen_78 (by decide) ?_
              exact ih _ _ _ _ hf _ _ _ hW hS (lv_sub hl [2, 3, 0] rfl)
            · rw [if_pos c6] at hf
              refine lv_aload_n hx hb dX9_chosen_58 rfl (lv_at hl 1 rfl) ?_
              refine g_9_14 X hK hW flRX9_46 dX9_chosen_59 ?_
              refine lv_iload_n hx hb dX9_chosen_62 rfl (lv_at hl 0 rfl) ?_
              refine al_33 X hK hW b3 dX9_chosen_63 ?_
              refine lv_aload_n hx hb dX9_chosen_64 rfl (lv_at hl 1 rfl) ?_
              refine g_9_14 X hK hW flRX9_46 dX9_chosen_65 ?_
              refine lv_iload_n hx hb dX9_chosen_68 rfl (lv_at hl 2 rfl) ?_
              obtain ⟨b7, hf⟩ := gd_some hf
              refine al_33 X hK hW b7 dX9_chosen_69 ?_
              refine lv_icmp_le (tgt := 75) hx hb dX9_chosen_70 (by decide) (fun c8 => ?_) (fun c8 => ?_)
              · rw [if_pos c8] at hf
                refine lv_iinc (v := (y2 + 1)) (lv' := [(2, .int (y2 + 1)), (3, .int (y2 - 1)), (0, .ref (ad 20 0)), (1, .int y1)]) hx hb dX9_chosen_75 hl (k := 3) rfl rfl (by decide) rfl (fun ls hl => ?_)
                refine lv_goto (tgt := 5) hx hb dX9_chosen_78 (by decide) ?_
                exact ih _ _ _ _ hf _ _ _ hW hS (lv_sub hl [2, 3, 0] rfl)
              · rw [if_neg c8] at hf
                refine lv_iload_n hx hb dX9_chosen_73 rfl (lv_at hl 0 rfl) ?_
                refine lv_istore_n (lv' := [(1, .int (y2 - 1)), (3, .int (y2 - 1)), (0, .ref (ad 20 0)), (2, .int y2)]) hx hb dX9_chosen_74 rfl hl (by decide) rfl (fun ls hl => ?_)
                refine lv_iinc (v := (y2 + 1)) (lv' := [(2, .int (y2 + 1)), (1, .int (y2 - 1)), (3, .int (y2 - 1)), (0, .ref (ad 20 0))]) hx hb dX9_chosen_75 hl (k := 3) rfl rfl (by decide) rfl (fun ls hl => ?_)
                refine lv_goto (tgt := 5) hx hb dX9_chosen_78 (by decide) ?_
                exact ih _ _ _ _ hf _ _ _ hW hS (lv_sub hl [3, 1, 0] rfl)
      · rw [if_pos c2] at hf
        refine lv_aload_n hx hb dX9_chosen_18 rfl (lv_at hl 0 rfl) ?_
        refine g_9_35 X hK hW flRX9_101 dX9_chosen_19 ?_
        refine lv_iload_n hx hb dX9_chosen_22 rfl (lv_at hl 2 rfl) ?_
        refine lv_iadd hx hb dX9_chosen_23 ?_
        refine lv_bipush (v := 6) hx hb dX9_chosen_24 (by decide) ?_
        refine lv_irem hx hb dX9_chosen_26 (by decide) ?_
        refine lv_goto (tgt := 33) hx hb dX9_chosen_27 (by decide) ?_
        refine lv_istore_n (lv' := [(3, .int (((N0 20 0 5) + y2) - ((N0 20 0 5) + y2) / 6 * 6)), (0, .ref (ad 20 0)), (1, .int y1), (2, .int y2)]) hx hb dX9_chosen_33 rfl hl (by decide) rfl (fun ls hl => ?_)
        refine lv_aload_n hx hb dX9_chosen_34 rfl (lv_at hl 1 rfl) ?_
        refine g_9_12 X hK hW flRX9_40 dX9_chosen_35 ?_
        refine lv_iload_n hx hb dX9_chosen_38 rfl (lv_at hl 0 rfl) ?_
        obtain ⟨b9, hf⟩ := gd_some hf
        refine al_31 X hK hW b9 dX9_chosen_39 ?_
        refine lv_iconst (v := 2) hx hb dX9_chosen_40 (by decide) ?_
        refine lv_icmp_ne (tgt := 75) hx hb dX9_chosen_41 (by decide) (fun c10 => ?_) (fun c10 => ?_)
        · rw [if_neg c10] at hf
          refine lv_iinc (v := (y2 + 1)) (lv' := [(2, .int (y2 + 1)), (3, .int (((N0 20 0 5) + y2) - ((N0 20 0 5) + y2) / 6 * 6)), (0, .ref (ad 20 0)), (1, .int y1)]) hx hb dX9_chosen_75 hl (k := 3) rfl rfl (by decide) rfl (fun ls hl => ?_)
          refine lv_goto (tgt := 5) hx hb dX9_chosen_78 (by decide) ?_
          exact ih _ _ _ _ hf _ _ _ hW hS (lv_sub hl [2, 3, 0] rfl)
        · rw [if_pos c10] at hf
          refine lv_iload_n hx hb dX9_chosen_44 rfl (lv_at hl 2 rfl) ?_
          refine lv_bipush (v := -4) hx hb dX9_chosen_45 (by decide) ?_
          refine lv_icmp_eq (tgt := 73) hx hb dX9_chosen_47 (by decide) (fun c11 => ?_) (fun c11 => ?_)
          · rw [if_pos c11] at hf
            refine lv_iload_n hx hb dX9_chosen_73 rfl (lv_at hl 0 rfl) ?_
            refine lv_istore_n (lv' := [(1, .int (((N0 20 0 5) + y2) - ((N0 20 0 5) + y2) / 6 * 6)), (3, .int (((N0 20 0 5) + y2) - ((N0 20 0 5) + y2) / 6 * 6)), (0, .ref (ad 20 0)), (2, .int y2)]) hx hb dX9_chosen_74 rfl hl (by decide) rfl (fun ls hl => ?_)
            refine lv_iinc (v := (y2 + 1)) (lv' := [(2, .int (y2 + 1)), (1, .int (((N0 20 0 5) + y2) - ((N0 20 0 5) + y2) / 6 * 6)), (3, .int (((N0 20 0 5) + y2) - ((N0 20 0 5) + y2) / 6 * 6)), (0, .ref (ad 20 0))]) hx hb dX9_chosen_75 hl (k := 3) rfl rfl (by decide) rfl (fun ls hl => ?_)
            refine lv_goto (tgt := 5) hx hb dX9_chosen_78 (by decide) ?_
            exact ih _ _ _ _ hf _ _ _ hW hS (lv_sub hl [3, 1, 0] rfl)
          · rw [if_neg c11] at hf
            refine lv_aload_n hx hb dX9_chosen_50 rfl (lv_at hl 1 rfl) ?_
            refine g_9_33 X hK hW flRX9_171 dX9_chosen_51 ?_
            refine lv_iconst (v := 1) hx hb dX9_chosen_54 (by decide) ?_
            refine lv_icmp_ne (tgt := 75) hx hb dX9_chosen_55 (by decide) (fun c12 => ?_) (fun c12 => ?_)
            · skip
              refine lv_iinc (v := (y2 + 1)) (lv' := [(2, .int (y2 + 1)), (3, .int (((N0 20 0 5) + y2) - ((N0 20 0 5) + y2) / 6 * 6)), (0, .ref (ad 20 0)), (1, .int y1)]) hx hb dX9_chosen_75 hl (k := 3) rfl rfl (by decide) rfl (fun ls hl => ?_)
              refine lv_goto (tgt := 5) hx hb dX9_chosen_78 (by decide) ?_
              exact ih _ _ _ _ hf _ _ _ hW hS (lv_sub hl [2, 3, 0] rfl)
            · exfalso; have := q_eq (b := 0) (by decide) c2; have := q_eq (b := 1) (by decide) c12; omega
set_option maxRecDepth 100000 in
set_option maxHeartbeats 4000000 in
theorem c_yX9_chosen (l : Launch) (E : Lay) (ad : Nat → Nat → Nat) (M N : Mem) (r : Int32) (hf : f_yX9_chosen N = some r) : Met l yX9_chosen (Cond.code yX9_chosen cX9_chosen 4 (some .int) :: TB) (rmm 0 0) (va_Pc [.ref (ad 20 0)] (PB E ad (M, N))) (Qi E ad r (M, N)) 0 0 (ow E) := by
  refine Met.ofW (cc := cX9_chosen) (maxL := 4) (ret := (some .int)) (by decide) rfl ?_
  intro p e s m args below meth c s₁ B hml hv
  obtain ⟨rfl, hW, hK, hZ⟩ := hv
  have hT : ∀ w ∈ TB, w.before _ s = true := fun w h => atoms_spec (ws := (Cond.code yX9_chosen cX9_chosen 4 (some .int) :: TB)) B.pre w (List.mem_cons_of_mem _ h)
  have X : CX p s m _ meth c cX9_chosen 4 (some .int) RX9 := ⟨B.exec, B.bytes, hml, findClass_of_methodNamed B.named, hT, B.returns, B.notSynchronized⟩
  obtain ⟨hx, hb, hml, hown, hT, hr, hlk⟩ := id X
  have hS : va_S (ow E) s.heap s.heap [] := va_S.rf
  have hl := lv_entry ([.ref (ad 20 0)]) (n := 4) (Nat.le_of_ble_eq_true rfl)
  rw [lg_entry_eq]
  generalize (lg_sl ([.ref (ad 20 0)]) ++ List.replicate (4 - (lg_sl ([.ref (ad 20 0)])).length) Slot.unset).toArray = ls at hl ⊢
  have hl : lv_has ls 4 [(0, .ref (ad 20 0))] := hl
  unfold f_yX9_chosen at hf
  refine lv_bipush (v := -4) hx hb dX9_chosen_0 (by decide) ?_
  refine lv_istore_n (lv' := [(1, .int (-4)), (0, .ref (ad 20 0))]) hx hb dX9_chosen_2 rfl hl (by decide) rfl (fun ls hl => ?_)
  refine lv_iconst (v := 1) hx hb dX9_chosen_3 (by decide) ?_
  refine lv_istore_n (lv' := [(2, .int 1), (1, .int (-4)), (0, .ref (ad 20 0))]) hx hb dX9_chosen_4 rfl hl (by decide) rfl (fun ls hl => ?_)
  exact (l_yX9_chosen_5 l E ad M X hK hZ 70) _ _ _ _ hf _ _ _ hW hS (lv_sub hl [2, 1, 0] rfl)
set_option maxRecDepth 100000 in
set_option maxHeartbeats 4000000 in
theorem k_yX9_chosen {p : Program} {l : Launch} {e : Env} {R : Room} {s : State} {m : MethodId} {args : Array Value} {below : List Frame} {meth : Method} {c : Code} {H : Heap} {locs : List Loc} {cells slots : Nat} {Q : State → Prop} {cc : ByteArray} {pc nL index : Nat} {ret : Option FieldType} {own : String} {ls : Array Slot} {rest : List Value} {E : Lay} {ad : Nat → Nat → Nat} {M N : Mem} (X : CX p s m args meth c cc nL ret own) (hK : KK E s) (hZ : ZZ E s) (hW : WD E ad (M, N) H) (hS : va_S (ow E) s.heap H locs) (hsz : ls.size = nL) {r : Int32} (hf : f_yX9_chosen N = some r) (hn : Cond.methodLink own index yX9_chosen ∈ TB) (hR : 0 + 1 ≤ R.frames ∧ 8 + (4 + 11) + 0 ≤ R.locals) (hC : cells ≤ R.cells ∧ slots ≤ R.slots) (h8 : (rest.map fun v => v.category).sum ≤ 8) (hdg : decode cc pc = .ok (.invokevirtual index, 3)) (kk : ∀ (H1 : Heap) (locs1 : List Loc), WD E ad (M, N) H1 → va_S (ow E) s.heap H1 locs1 → W p l e R s m args below meth c H1 locs1 cells slots Q (F0 m (pc + 3) ls (.int r :: rest))) : W p l e R s m args below meth c H locs cells slots Q (F0 m pc ls (.ref (ad 20 0) :: rest)) := by
  refine va_calli (va_runV (C := RX9) (As := []) (rest := rest) ⟨X.1, X.2.1, X.2.2.1, X.2.2.2.1, X.2.2.2.2.1⟩ (c_yX9_chosen l E ad M N r hf) (cwV 0 X.2.2.2.2.1 (gV hn im_yX9_chosen se_yX9_chosen iniRX9 cd_yX9_chosen) rfl rfl rfl (by decide +kernel) hR) ⟨fun a U g mk q => ⟨q.1, q.2.calling⟩, va_recv hK.1 (hW.at (c := 20) (i := 0) Nat.zero_lt_one rfl) (ci := 9) (q0 := 0) rfl rfl, fun U hU hw => ⟨rfl, PB.at hW hK hZ hS hU hw⟩⟩ rfl rfl hsz rfl (lv_room h8) hdg hC) hS (fun _ _ h => h) (fun _ h => h) (fun r' u t H1 locs1 ht hvm hw hB hz1 hk1 hS1 => ?_)
  obtain ⟨rfl, rfl⟩ := hw
  rw [ht] at hB
  exact kk H1 locs1 hB hS1
def f_yX9_goesTo (N : Mem) (x1 : Int32) (x2 : Int32) : Option Mem := gd (¬ (x1 < 0 ∨ 6 ≤ x1.toNatClampNeg)) (gd (¬ ((N 32 0 x1.toNatClampNeg) < 0 ∨ 8 ≤ (N 32 0 x1.toNatClampNeg).toNatClampNeg)) ((if x2 ≤ (N 29 0 (N 32 0 x1.toNatClampNeg).toNatClampNeg) then lt1 (mp N 34 0 x1.toNatClampNeg x2) (fun N4 => (some N4)) else lt1 (mp N 34 0 x1.toNatClampNeg (N 29 0 (N 32 0 x1.toNatClampNeg).toNatClampNeg)) (fun N5 => (some N5)))))
set_option maxRecDepth 100000 in
set_option maxHeartbeats 4000000 in
theorem c_yX9_goesTo (l : Launch) (E : Lay) (ad : Nat → Nat → Nat) (M N : Mem) (x1 : Int32) (x2 : Int32) (Nr : Mem) (hf : f_yX9_goesTo N x1 x2 = some Nr) : Met l yX9_goesTo (Cond.code yX9_goesTo cX9_goesTo 4 none :: TB) (rmm 0 0) (va_Pc [.ref (ad 20 0), .int x1, .int x2] (PB E ad (M, N))) (Qv E ad (M, Nr)) 0 0 (ow E) := by
  refine Met.ofW (cc := cX9_goesTo) (maxL := 4) (ret := none) (by decide) rfl ?_
  intro p e s m args below meth c s₁ B hml hv
  obtain ⟨rfl, hW, hK, hZ⟩ := hv
  have hT : ∀ w ∈ TB, w.before _ s = true := fun w h => atoms_spec (ws := (Cond.code yX9_goesTo cX9_goesTo 4 none :: TB)) B.pre w (List.mem_cons_of_mem _ h)
  have X : CX p s m _ meth c cX9_goesTo 4 none RX9 := ⟨B.exec, B.bytes, hml, findClass_of_methodNamed B.named, hT, B.returns, B.notSynchronized⟩
  obtain ⟨hx, hb, hml, hown, hT, hr, hlk⟩ := id X
  have hS : va_S (ow E) s.heap s.heap [] := va_S.rf
  have hl := lv_entry ([.ref (ad 20 0), .int x1, .int x2]) (n := 4) (Nat.le_of_ble_eq_true rfl)
  rw [lg_entry_eq]
  generalize (lg_sl ([.ref (ad 20 0), .int x1, .int x2]) ++ List.replicate (4 - (lg_sl ([.ref (ad 20 0), .int x1, .int x2])).length) Slot.unset).toArray = ls at hl ⊢
  have hl : lv_has ls 4 [(0, .ref (ad 20 0)), (1, .int x1), (2, .int x2)] := hl
  unfold f_yX9_goesTo at hf
  refine lv_aload_n hx hb dX9_goesTo_0 rfl (lv_at hl 0 rfl) ?_
  refine g_9_10 X hK hW flRX9_34 dX9_goesTo_1 ?_
  refine lv_aload_n hx hb dX9_goesTo_4 rfl (lv_at hl 0 rfl) ?_
  refine g_9_13 X hK hW flRX9_43 dX9_goesTo_5 ?_
  refine lv_iload_n hx hb dX9_goesTo_8 rfl (lv_at hl 1 rfl) ?_
  obtain ⟨b1, hf⟩ := gd_some hf
  refine al_32 X hK hW b1 dX9_goesTo_9 ?_
  obtain ⟨b2, hf⟩ := gd_some hf
  refine al_29 X hK hW b2 dX9_goesTo_10 ?_
  refine lv_istore_n (lv' := [(3, .int (N 29 0 (N 32 0 x1.toNatClampNeg).toNatClampNeg)), (0, .ref (ad 20 0)), (1, .int x1), (2, .int x2)]) hx hb dX9_goesTo_11 rfl hl (by decide) rfl (fun ls hl => ?_)
  refine lv_aload_n hx hb dX9_goesTo_12 rfl (lv_at hl 1 rfl) ?_
  refine g_9_15 X hK hW flRX9_49 dX9_goesTo_13 ?_
  refine lv_iload_n hx hb dX9_goesTo_16 rfl (lv_at hl 2 rfl) ?_
  refine lv_iload_n hx hb dX9_goesTo_17 rfl (lv_at hl 3 rfl) ?_
  refine lv_iload_n hx hb dX9_goesTo_18 rfl (lv_at hl 0 rfl) ?_
  refine lv_icmp_le (tgt := 26) hx hb dX9_goesTo_19 (by decide) (fun c3 => ?_) (fun c3 => ?_)
  · rw [if_pos c3] at hf
    refine lv_iload_n hx hb dX9_goesTo_26 rfl (lv_at hl 3 rfl) ?_
    obtain ⟨N4, hN4, hf⟩ := lt1_some hf
    refine as_34 X hK hW hS b1 hN4 dX9_goesTo_27 (fun H locs hW hS => ?_)
    obtain rfl := sp1 hf
    exact e_v ⟨hx, hb, hr, hlk⟩ hW hS dX9_goesTo_28
  · rw [if_neg c3] at hf
    refine lv_iload_n hx hb dX9_goesTo_22 rfl (lv_at hl 0 rfl) ?_
    refine lv_goto (tgt := 27) hx hb dX9_goesTo_23 (by decide) ?_
    obtain ⟨N5, hN5, hf⟩ := lt1_some hf
    refine as_34 X hK hW hS b1 hN5 dX9_goesTo_27 (fun H locs hW hS => ?_)
    obtain rfl := sp1 hf
    exact e_v ⟨hx, hb, hr, hlk⟩ hW hS dX9_goesTo_28
set_option maxRecDepth 100000 in
set_option maxHeartbeats 4000000 in
theorem k_yX9_goesTo {p : Program} {l : Launch} {e : Env} {R : Room} {s : State} {m : MethodId} {args : Array Value} {below : List Frame} {meth : Method} {c : Code} {H : Heap} {locs : List Loc} {cells slots : Nat} {Q : State → Prop} {cc : ByteArray} {pc nL index : Nat} {ret : Option FieldType} {own : String} {ls : Array Slot} {rest : List Value} {E : Lay} {ad : Nat → Nat → Nat} {M N : Mem} (X : CX p s m args meth c cc nL ret own) (hK : KK E s) (hZ : ZZ E s) (hW : WD E ad (M, N) H) (hS : va_S (ow E) s.heap H locs) (hsz : ls.size = nL) {x1 : Int32} {x2 : Int32} {Nr : Mem} (hf : f_yX9_goesTo N x1 x2 = some Nr) (hn : Cond.methodLink own index yX9_goesTo ∈ TB) (hR : 0 + 1 ≤ R.frames ∧ 8 + (4 + 11) + 0 ≤ R.locals) (hC : cells ≤ R.cells ∧ slots ≤ R.slots) (h8 : (rest.map fun v => v.category).sum ≤ 8) (hdg : decode cc pc = .ok (.invokevirtual index, 3)) (kk : ∀ (H1 : Heap) (locs1 : List Loc), WD E ad (M, Nr) H1 → va_S (ow E) s.heap H1 locs1 → W p l e R s m args below meth c H1 locs1 cells slots Q (F0 m (pc + 3) ls (rest))) : W p l e R s m args below meth c H locs cells slots Q (F0 m pc ls (.int x2 :: .int x1 :: .ref (ad 20 0) :: rest)) := by
  refine va_callv (va_runV (C := RX9) (As := [.int x1, .int x2]) (rest := rest) ⟨X.1, X.2.1, X.2.2.1, X.2.2.2.1, X.2.2.2.2.1⟩ (c_yX9_goesTo l E ad M N x1 x2 Nr hf) (cwV 2 X.2.2.2.2.1 (gV hn im_yX9_goesTo se_yX9_goesTo iniRX9 cd_yX9_goesTo) rfl rfl rfl (by decide +kernel) hR) ⟨fun a U g mk q => ⟨q.1, q.2.calling⟩, va_recv hK.1 (hW.at (c := 20) (i := 0) Nat.zero_lt_one rfl) (ci := 9) (q0 := 0) rfl rfl, fun U hU hw => ⟨rfl, PB.at hW hK hZ hS hU hw⟩⟩ rfl rfl hsz rfl (lv_room h8) hdg hC) hS (fun _ _ h => h) (fun _ h => h) (fun u t H1 locs1 ht hvm hw hB hz1 hk1 hS1 => ?_)
  subst hw
  rw [ht] at hB
  exact kk H1 locs1 hB hS1
def f_yX9_bad (N : Mem) (x1 : Int32) : Option Mem := lt1 (mp N 20 0 7 x1) (fun N1 => (some N1))
set_option maxRecDepth 100000 in
set_option maxHeartbeats 4000000 in
theorem c_yX9_bad (l : Launch) (E : Lay) (ad : Nat → Nat → Nat) (M N : Mem) (x1 : Int32) (Nr : Mem) (hf : f_yX9_bad N x1 = some Nr) : Met l yX9_bad (Cond.code yX9_bad cX9_bad 2 none :: TB) (rmm 0 0) (va_Pc [.ref (ad 20 0), .int x1] (PB E ad (M, N))) (Qv E ad (M, Nr)) 0 0 (ow E) := by
  refine Met.ofW (cc := cX9_bad) (maxL := 2) (ret := none) (by decide) rfl ?_
  intro p e s m args below meth c s₁ B hml hv
  obtain ⟨rfl, hW, hK, hZ⟩ := hv
  have hT : ∀ w ∈ TB, w.before _ s = true := fun w h => atoms_spec (ws := (Cond.code yX9_bad cX9_bad 2 none :: TB)) B.pre w (List.mem_cons_of_mem _ h)
  have X : CX p s m _ meth c cX9_bad 2 none RX9 := ⟨B.exec, B.bytes, hml, findClass_of_methodNamed B.named, hT, B.returns, B.notSynchronized⟩
  obtain ⟨hx, hb, hml, hown, hT, hr, hlk⟩ := id X
  have hS : va_S (ow E) s.heap s.heap [] := va_S.rf
  have hl := lv_entry ([.ref (ad 20 0), .int x1]) (n := 2) (Nat.le_of_ble_eq_true rfl)
  rw [lg_entry_eq]
  generalize (lg_sl ([.ref (ad 20 0), .int x1]) ++ List.replicate (2 - (lg_sl ([.ref (ad 20 0), .int x1])).length) Slot.unset).toArray = ls at hl ⊢
  have hl : lv_has ls 2 [(0, .ref (ad 20 0)), (1, .int x1)] := hl
  unfold f_yX9_bad at hf
  refine lv_aload_n hx hb dX9_bad_0 rfl (lv_at hl 0 rfl) ?_
  refine lv_iload_n hx hb dX9_bad_1 rfl (lv_at hl 1 rfl) ?_
  obtain ⟨N1, hN1, hf⟩ := lt1_some hf
  refine p_9_37 X hK hW hS hN1 flRX9_184 dX9_bad_2 (fun H locs hW hS => ?_)
  obtain rfl := sp1 hf
  exact e_v ⟨hx, hb, hr, hlk⟩ hW hS dX9_bad_5
set_option maxRecDepth 100000 in
set_option maxHeartbeats 4000000 in
theorem k_yX9_bad {p : Program} {l : Launch} {e : Env} {R : Room} {s : State} {m : MethodId} {args : Array Value} {below : List Frame} {meth : Method} {c : Code} {H : Heap} {locs : List Loc} {cells slots : Nat} {Q : State → Prop} {cc : ByteArray} {pc nL index : Nat} {ret : Option FieldType} {own : String} {ls : Array Slot} {rest : List Value} {E : Lay} {ad : Nat → Nat → Nat} {M N : Mem} (X : CX p s m args meth c cc nL ret own) (hK : KK E s) (hZ : ZZ E s) (hW : WD E ad (M, N) H) (hS : va_S (ow E) s.heap H locs) (hsz : ls.size = nL) {x1 : Int32} {Nr : Mem} (hf : f_yX9_bad N x1 = some Nr) (hn : Cond.methodLink own index yX9_bad ∈ TB) (hR : 0 + 1 ≤ R.frames ∧ 8 + (2 + 11) + 0 ≤ R.locals) (hC : cells ≤ R.cells ∧ slots ≤ R.slots) (h8 : (rest.map fun v => v.category).sum ≤ 8) (hdg : decode cc pc = .ok (.invokevirtual index, 3)) (kk : ∀ (H1 : Heap) (locs1 : List Loc), WD E ad (M, Nr) H1 → va_S (ow E) s.heap H1 locs1 → W p l e R s m args below meth c H1 locs1 cells slots Q (F0 m (pc + 3) ls (rest))) : W p l e R s m args below meth c H locs cells slots Q (F0 m pc ls (.int x1 :: .ref (ad 20 0) :: rest)) := by
  refine va_callv (va_runV (C := RX9) (As := [.int x1]) (rest := rest) ⟨X.1, X.2.1, X.2.2.1, X.2.2.2.1, X.2.2.2.2.1⟩ (c_yX9_bad l E ad M N x1 Nr hf) (cwV 1 X.2.2.2.2.1 (gV hn im_yX9_bad se_yX9_bad iniRX9 cd_yX9_bad) rfl rfl rfl (by decide +kernel) hR) ⟨fun a U g mk q => ⟨q.1, q.2.calling⟩, va_recv hK.1 (hW.at (c := 20) (i := 0) Nat.zero_lt_one rfl) (ci := 9) (q0 := 0) rfl rfl, fun U hU hw => ⟨rfl, PB.at hW hK hZ hS hU hw⟩⟩ rfl rfl hsz rfl (lv_room h8) hdg hC) hS (fun _ _ h => h) (fun _ h => h) (fun u t H1 locs1 ht hvm hw hB hz1 hk1 hS1 => ?_)
  subst hw
  rw [ht] at hB
  exact kk H1 locs1 hB hS1
def f_yX9_numbers (N : Mem) (x1 : Int32) (x2 : Int32) (x3 : Int32) (x4 : Int32) (x5 : Int32) : Option Mem := (if x2 = 0 then gd (¬ (((6 * x1) + x3) < 0 ∨ 36 ≤ ((6 * x1) + x3).toNatClampNeg)) (lt1 (mp N 49 0 ((6 * x1) + x3).toNatClampNeg x4) (fun N3 => (some N3))) else (if x2 = 1 then gd (¬ (((6 * x1) + x3) < 0 ∨ 36 ≤ ((6 * x1) + x3).toNatClampNeg)) (gd (¬ (((6 * x1) + x4) < 0 ∨ 36 ≤ ((6 * x1) + x4).toNatClampNeg)) (lt1 (mp N 49 0 ((6 * x1) + x3).toNatClampNeg ((N 49 0 ((6 * x1) + x3).toNatClampNeg) + (N 49 0 ((6 * x1) + x4).toNatClampNeg))) (fun N7 => (some N7)))) else (if x2 = 2 then gd (¬ (((6 * x1) + x3) < 0 ∨ 36 ≤ ((6 * x1) + x3).toNatClampNeg)) (gd (¬ (((6 * x1) + x4) < 0 ∨ 36 ≤ ((6 * x1) + x4).toNatClampNeg)) (lt1 (mp N 49 0 ((6 * x1) + x3).toNatClampNeg ((N 49 0 ((6 * x1) + x3).toNatClampNeg) - (N 49 0 ((6 * x1) + x4).toNatClampNeg))) (fun N11 => (some N11)))) else (if x2 = 3 then gd (¬ (((6 * x1) + x3) < 0 ∨ 36 ≤ ((6 * x1) + x3).toNatClampNeg)) (gd (¬ (((6 * x1) + x4) < 0 ∨ 36 ≤ ((6 * x1) + x4).toNatClampNeg)) (lt1 (mp N 49 0 ((6 * x1) + x3).toNatClampNeg ((N 49 0 ((6 * x1) + x3).toNatClampNeg) * (N 49 0 ((6 * x1) + x4).toNatClampNeg))) (fun N15 => (some N15)))) else (if x2 = 4 then gd (¬ (((6 * x1) + x4) < 0 ∨ 36 ≤ ((6 * x1) + x4).toNatClampNeg)) ((if (N 49 0 ((6 * x1) + x4).toNatClampNeg) = 0 then ob1 (f_yX9_bad N 6) (fun N26 => (some N26)) else (if (N 49 0 ((6 * x1) + x4).toNatClampNeg) = (-1) then gd (¬ (((6 * x1) + x3) < 0 ∨ 36 ≤ ((6 * x1) + x3).toNatClampNeg)) (lt1 (mp N 49 0 ((6 * x1) + x3).toNatClampNeg (-(N 49 0 ((6 * x1) + x3).toNatClampNeg))) (fun N24 => (some N24))) else gd (¬ (((6 * x1) + x3) < 0 ∨ 36 ≤ ((6 * x1) + x3).toNatClampNeg)) (gd (¬ (N 49 0 ((6 * x1) + x4).toNatClampNeg) = 0) (lt1 (mp N 49 0 ((6 * x1) + x3).toNatClampNeg ((N 49 0 ((6 * x1) + x3).toNatClampNeg) / (N 49 0 ((6 * x1) + x4).toNatClampNeg))) (fun N22 => (some N22))))))) else (if x2 = 5 then gd (¬ (((6 * x1) + x4) < 0 ∨ 36 ≤ ((6 * x1) + x4).toNatClampNeg)) (gd (¬ (((6 * x1) + x5) < 0 ∨ 36 ≤ ((6 * x1) + x5).toNatClampNeg)) ((if (N 49 0 ((6 * x1) + x5).toNatClampNeg) ≤ (N 49 0 ((6 * x1) + x4).toNatClampNeg) then gd (¬ (((6 * x1) + x3) < 0 ∨ 36 ≤ ((6 * x1) + x3).toNatClampNeg)) (lt1 (mp N 49 0 ((6 * x1) + x3).toNatClampNeg 0) (fun N32 => (some N32))) else gd (¬ (((6 * x1) + x3) < 0 ∨ 36 ≤ ((6 * x1) + x3).toNatClampNeg)) (lt1 (mp N 49 0 ((6 * x1) + x3).toNatClampNeg 1) (fun N34 => (some N34)))))) else (if x2 = 6 then ob1 (f_yX9_goesTo N x1 x3) (fun N37 => (some N37)) else gd (¬ (((6 * x1) + x4) < 0 ∨ 36 ≤ ((6 * x1) + x4).toNatClampNeg)) ((if (N 49 0 ((6 * x1) + x4).toNatClampNeg) = 0 then ob1 (f_yX9_goesTo N x1 x3) (fun N41 => (some N41)) else (some N))))))))))
set_option maxRecDepth 100000 in
set_option maxHeartbeats 4000000 in
theorem c_yX9_numbers (l : Launch) (E : Lay) (ad : Nat → Nat → Nat) (M N : Mem) (x1 : Int32) (x2 : Int32) (x3 : Int32) (x4 : Int32) (x5 : Int32) (Nr : Mem) (hf : f_yX9_numbers N x1 x2 x3 x4 x5 = some Nr) : Met l yX9_numbers (Cond.code yX9_numbers cX9_numbers 8 none :: TB) (rmm 1 23) (va_Pc [.ref (ad 20 0), .int x1, .int x2, .int x3, .int x4, .int x5] (PB E ad (M, N))) (Qv E ad (M, Nr)) 0 0 (ow E) := by
  refine Met.ofW (cc := cX9_numbers) (maxL := 8) (ret := none) (by decide) rfl ?_
  intro p e s m args below meth c s₁ B hml hv
  obtain ⟨rfl, hW, hK, hZ⟩ := hv
  have hT : ∀ w ∈ TB, w.before _ s = true := fun w h => atoms_spec (ws := (Cond.code yX9_numbers cX9_numbers 8 none :: TB)) B.pre w (List.mem_cons_of_mem _ h)
  have X : CX p s m _ meth c cX9_numbers 8 none RX9 := ⟨B.exec, B.bytes, hml, findClass_of_methodNamed B.named, hT, B.returns, B.notSynchronized⟩
  obtain ⟨hx, hb, hml, hown, hT, hr, hlk⟩ := id X
  have hS : va_S (ow E) s.heap s.heap [] := va_S.rf
  have hl := lv_entry ([.ref (ad 20 0), .int x1, .int x2, .int x3, .int x4, .int x5]) (n := 8) (Nat.le_of_ble_eq_true rfl)
  rw [lg_entry_eq]
  generalize (lg_sl ([.ref (ad 20 0), .int x1, .int x2, .int x3, .int x4, .int x5]) ++ List.replicate (8 - (lg_sl ([.ref (ad 20 0), .int x1, .int x2, .int x3, .int x4, .int x5])).length) Slot.unset).toArray = ls at hl ⊢
  have hl : lv_has ls 8 [(0, .ref (ad 20 0)), (1, .int x1), (2, .int x2), (3, .int x3), (4, .int x4), (5, .int x5)] := hl
  unfold f_yX9_numbers at hf
  refine lv_bipush (v := 6) hx hb dX9_numbers_0 (by decide) ?_
  refine lv_iload_n hx hb dX9_numbers_2 rfl (lv_at hl 1 rfl) ?_
  refine lv_imul hx hb dX9_numbers_3 ?_
  refine lv_iload_n hx hb dX9_numbers_4 rfl (lv_at hl 3 rfl) ?_
  refine lv_iadd hx hb dX9_numbers_5 ?_
  refine lv_istore (lv' := [(6, .int ((6 * x1) + x3)), (0, .ref (ad 20 0)), (1, .int x1), (2, .int x2), (3, .int x3), (4, .int x4), (5, .int x5)]) hx hb dX9_numbers_6 hl (by decide) rfl (fun ls hl => ?_)
  refine lv_bipush (v := 6) hx hb dX9_numbers_8 (by decide) ?_
  refine lv_iload_n hx hb dX9_numbers_10 rfl (lv_at hl 2 rfl) ?_
  refine lv_imul hx hb dX9_numbers_11 ?_
  refine lv_iload hx hb dX9_numbers_12 (lv_at hl 5 rfl) ?_
  refine lv_iadd hx hb dX9_numbers_14 ?_
  refine lv_istore (lv' := [(7, .int ((6 * x1) + x4)), (6, .int ((6 * x1) + x3)), (0, .ref (ad 20 0)), (1, .int x1), (2, .int x2), (3, .int x3), (4, .int x4), (5, .int x5)]) hx hb dX9_numbers_15 hl (by decide) rfl (fun ls hl => ?_)
  refine lv_iload_n hx hb dX9_numbers_17 rfl (lv_at hl 4 rfl) ?_
  by_cases c1 : x2 = 0
  · rw [if_pos c1] at hf
    refine lv_tableIn (tgt := 56) hx hb dX9_numbers_18 (by rw [c1]; decide) (by rw [c1]; decide) (by rw [c1]; rfl) (by decide) ?_
    refine lv_aload_n hx hb dX9_numbers_56 rfl (lv_at hl 2 rfl) ?_
    refine g_9_30 X hK hW flRX9_95 dX9_numbers_57 ?_
    refine lv_iload hx hb dX9_numbers_60 (lv_at hl 1 rfl) ?_
    refine lv_iload hx hb dX9_numbers_62 (lv_at hl 6 rfl) ?_
    obtain ⟨b2, hf⟩ := gd_some hf
    obtain ⟨N3, hN3, hf⟩ := lt1_some hf
    refine as_49 X hK hW hS b2 hN3 dX9_numbers_64 (fun H locs hW hS => ?_)
    refine lv_goto (tgt := 253) hx hb dX9_numbers_65 (by decide) ?_
    obtain rfl := sp1 hf
    exact e_v ⟨hx, hb, hr, hlk⟩ hW hS dX9_numbers_253
  rw [if_neg c1] at hf
  by_cases c4 : x2 = 1
  · rw [if_pos c4] at hf
    refine lv_tableIn (tgt := 68) hx hb dX9_numbers_18 (by rw [c4]; decide) (by rw [c4]; decide) (by rw [c4]; rfl) (by decide) ?_
    refine lv_aload_n hx hb dX9_numbers_68 rfl (lv_at hl 2 rfl) ?_
    refine g_9_30 X hK hW flRX9_95 dX9_numbers_69 ?_
    refine lv_iload hx hb dX9_numbers_72 (lv_at hl 1 rfl) ?_
    refine lv_dup2_11 hx hb dX9_numbers_74 rfl rfl ?_
    obtain ⟨b5, hf⟩ := gd_some hf
    refine al_49 X hK hW b5 dX9_numbers_75 ?_
    refine lv_aload_n hx hb dX9_numbers_76 rfl (lv_at hl 2 rfl) ?_
    refine g_9_30 X hK hW flRX9_95 dX9_numbers_77 ?_
    refine lv_iload hx hb dX9_numbers_80 (lv_at hl 0 rfl) ?_
    obtain ⟨b6, hf⟩ := gd_some hf
    refine al_49 X hK hW b6 dX9_numbers_82 ?_
    refine lv_iadd hx hb dX9_numbers_83 ?_
    obtain ⟨N7, hN7, hf⟩ := lt1_some hf
    refine as_49 X hK hW hS b5 hN7 dX9_numbers_84 (fun H locs hW hS => ?_)
    refine lv_goto (tgt := 253) hx hb dX9_numbers_85 (by decide) ?_
    obtain rfl := sp1 hf
    exact e_v ⟨hx, hb, hr, hlk⟩ hW hS dX9_numbers_253
  rw [if_neg c4] at hf
  by_cases c8 : x2 = 2
  · rw [if_pos c8] at hf
    refine lv_tableIn (tgt := 88) hx hb dX9_numbers_18 (by rw [c8]; decide) (by rw [c8]; decide) (by rw [c8]; rfl) (by decide) ?_
    refine lv_aload_n hx hb dX9_numbers_88 rfl (lv_at hl 2 rfl) ?_
    refine g_9_30 X hK hW flRX9_95 dX9_numbers_89 ?_
    refine lv_iload hx hb dX9_numbers_92 (lv_at hl 1 rfl) ?_
    refine lv_dup2_11 hx hb dX9_numbers_94 rfl rfl ?_
    obtain ⟨b9, hf⟩ := gd_some hf
    refine al_49 X hK hW b9 dX9_numbers_95 ?_
    refine lv_aload_n hx hb dX9_numbers_96 rfl (lv_at hl 2 rfl) ?_
    refine g_9_30 X hK hW flRX9_95 dX9_numbers_97 ?_
    refine lv_iload hx hb dX9_numbers_100 (lv_at hl 0 rfl) ?_
    obtain ⟨b10, hf⟩ := gd_some hf
    refine al_49 X hK hW b10 dX9_numbers_102 ?_
    refine lv_isub hx hb dX9_numbers_103 ?_
    obtain ⟨N11, hN11, hf⟩ := lt1_some hf
    refine as_49 X hK hW hS b9 hN11 dX9_numbers_104 (fun H locs hW hS => ?_)
    refine lv_goto (tgt := 253) hx hb dX9_numbers_105 (by decide) ?_
    obtain rfl := sp1 hf
    exact e_v ⟨hx, hb, hr, hlk⟩ hW hS dX9_numbers_253
  rw [if_neg c8] at hf
  by_cases c12 : x2 = 3
  · rw [if_pos c12] at hf
    refine lv_tableIn (tgt := 108) hx hb dX9_numbers_18 (by rw [c12]; decide) (by rw [c12]; decide) (by rw [c12]; rfl) (by decide) ?_
    refine lv_aload_n hx hb dX9_numbers_108 rfl (lv_at hl 2 rfl) ?_
    refine g_9_30 X hK hW flRX9_95 dX9_numbers_109 ?_
    refine lv_iload hx hb dX9_numbers_112 (lv_at hl 1 rfl) ?_
    refine lv_dup2_11 hx hb dX9_numbers_114 rfl rfl ?_
    obtain ⟨b13, hf⟩ := gd_some hf
    refine al_49 X hK hW b13 dX9_numbers_115 ?_
    refine lv_aload_n hx hb dX9_numbers_116 rfl (lv_at hl 2 rfl) ?_
    refine g_9_30 X hK hW flRX9_95 dX9_numbers_117 ?_
    refine lv_iload hx hb dX9_numbers_120 (lv_at hl 0 rfl) ?_
    obtain ⟨b14, hf⟩ := gd_some hf
    refine al_49 X hK hW b14 dX9_numbers_122 ?_
    refine lv_imul hx hb dX9_numbers_123 ?_
    obtain ⟨N15, hN15, hf⟩ := lt1_some hf
    refine as_49 X hK hW hS b13 hN15 dX9_numbers_124 (fun H locs hW hS => ?_)
    refine lv_goto (tgt := 253) hx hb dX9_numbers_125 (by decide) ?_
    obtain rfl := sp1 hf
    exact e_v ⟨hx, hb, hr, hlk⟩ hW hS dX9_numbers_253
  rw [if_neg c12] at hf
  by_cases c16 : x2 = 4
  · rw [if_pos c16] at hf
    refine lv_tableIn (tgt := 128) hx hb dX9_numbers_18 (by rw [c16]; decide) (by rw [c16]; decide) (by rw [c16]; rfl) (by decide) ?_
    refine lv_aload_n hx hb dX9_numbers_128 rfl (lv_at hl 2 rfl) ?_
    refine g_9_30 X hK hW flRX9_95 dX9_numbers_129 ?_
    refine lv_iload hx hb dX9_numbers_132 (lv_at hl 0 rfl) ?_
    obtain ⟨b17, hf⟩ := gd_some hf
    refine al_49 X hK hW b17 dX9_numbers_134 ?_
    refine lv_if_ne (tgt := 147) hx hb dX9_numbers_135 (by decide) (fun c18 => ?_) (fun c18 => ?_)
    · rw [if_neg c18] at hf
      refine lv_aload_n hx hb dX9_numbers_147 rfl (lv_at hl 2 rfl) ?_
      refine g_9_30 X hK hW flRX9_95 dX9_numbers_148 ?_
      refine lv_iload hx hb dX9_numbers_151 (lv_at hl 1 rfl) ?_
      refine lv_aload_n hx hb dX9_numbers_153 rfl (lv_at hl 2 rfl) ?_
      refine g_9_30 X hK hW flRX9_95 dX9_numbers_154 ?_
      refine lv_iload hx hb dX9_numbers_157 (lv_at hl 0 rfl) ?_
      refine al_49 X hK hW b17 dX9_numbers_159 ?_
      refine lv_iconst (v := -1) hx hb dX9_numbers_160 (by decide) ?_
      refine lv_icmp_ne (tgt := 175) hx hb dX9_numbers_161 (by decide) (fun c19 => ?_) (fun c19 => ?_)
      · rw [if_neg c19] at hf
        refine lv_aload_n hx hb dX9_numbers_175 rfl (lv_at hl 2 rfl) ?_
        refine g_9_30 X hK hW flRX9_95 dX9_numbers_176 ?_
        refine lv_iload hx hb dX9_numbers_179 (lv_at hl 1 rfl) ?_
        obtain ⟨b20, hf⟩ := gd_some hf
        refine al_49 X hK hW b20 dX9_numbers_181 ?_
        refine lv_aload_n hx hb dX9_numbers_182 rfl (lv_at hl 2 rfl) ?_
        refine g_9_30 X hK hW flRX9_95 dX9_numbers_183 ?_
        refine lv_iload hx hb dX9_numbers_186 (lv_at hl 0 rfl) ?_
        refine al_49 X hK hW b17 dX9_numbers_188 ?_
        obtain ⟨q21, hf⟩ := gd_some hf
        refine lv_idiv hx hb dX9_numbers_189 q21 ?_
        obtain ⟨N22, hN22, hf⟩ := lt1_some hf
        refine as_49 X hK hW hS b20 hN22 dX9_numbers_190 (fun H locs hW hS => ?_)
        refine lv_goto (tgt := 253) hx hb dX9_numbers_191 (by decide) ?_
        obtain rfl := sp1 hf
        exact e_v ⟨hx, hb, hr, hlk⟩ hW hS dX9_numbers_253
      · rw [if_pos c19] at hf
        refine lv_aload_n hx hb dX9_numbers_164 rfl (lv_at hl 2 rfl) ?_
        refine g_9_30 X hK hW flRX9_95 dX9_numbers_165 ?_
        refine lv_iload hx hb dX9_numbers_168 (lv_at hl 1 rfl) ?_
        obtain ⟨b23, hf⟩ := gd_some hf
        refine al_49 X hK hW b23 dX9_numbers_170 ?_
        refine lv_ineg hx hb dX9_numbers_171 ?_
        refine lv_goto (tgt := 190) hx hb dX9_numbers_172 (by decide) ?_
        obtain ⟨N24, hN24, hf⟩ := lt1_some hf
        refine as_49 X hK hW hS b23 hN24 dX9_numbers_190 (fun H locs hW hS => ?_)
        refine lv_goto (tgt := 253) hx hb dX9_numbers_191 (by decide) ?_
        obtain rfl := sp1 hf
        exact e_v ⟨hx, hb, hr, hlk⟩ hW hS dX9_numbers_253
    · rw [if_pos c18] at hf
      refine lv_aload_n hx hb dX9_numbers_138 rfl (lv_at hl 2 rfl) ?_
      refine lv_bipush (v := 6) hx hb dX9_numbers_139 (by decide) ?_
      obtain ⟨N26, h25, hf⟩ := ob1_some hf
      refine k_yX9_bad X hK hZ hW hS hl.1 h25 mlRX9_245 ⟨Nat.le_of_ble_eq_true rfl, Nat.le_of_ble_eq_true rfl⟩ ⟨Nat.le_of_ble_eq_true rfl, Nat.le_of_ble_eq_true rfl⟩ (Nat.le_of_ble_eq_true rfl) dX9_numbers_141 (fun H locs hW hS => ?_)
      refine lv_goto (tgt := 253) hx hb dX9_numbers_144 (by decide) ?_
      obtain rfl := sp1 hf
      exact e_v ⟨hx, hb, hr, hlk⟩ hW hS dX9_numbers_253
  rw [if_neg c16] at hf
  by_cases c27 : x2 = 5
  · rw [if_pos c27] at hf
    refine lv_tableIn (tgt := 194) hx hb dX9_numbers_18 (by rw [c27]; decide) (by rw [c27]; decide) (by rw [c27]; rfl) (by decide) ?_
    refine lv_aload_n hx hb dX9_numbers_194 rfl (lv_at hl 2 rfl) ?_
    refine g_9_30 X hK hW flRX9_95 dX9_numbers_195 ?_
    refine lv_iload hx hb dX9_numbers_198 (lv_at hl 1 rfl) ?_
    refine lv_aload_n hx hb dX9_numbers_200 rfl (lv_at hl 2 rfl) ?_
    refine g_9_30 X hK hW flRX9_95 dX9_numbers_201 ?_
    refine lv_iload hx hb dX9_numbers_204 (lv_at hl 0 rfl) ?_
    obtain ⟨b28, hf⟩ := gd_some hf
    refine al_49 X hK hW b28 dX9_numbers_206 ?_
    refine lv_aload_n hx hb dX9_numbers_207 rfl (lv_at hl 2 rfl) ?_
    refine g_9_30 X hK hW flRX9_95 dX9_numbers_208 ?_
    refine lv_bipush (v := 6) hx hb dX9_numbers_211 (by decide) ?_
    refine lv_iload_n hx hb dX9_numbers_213 rfl (lv_at hl 3 rfl) ?_
    refine lv_imul hx hb dX9_numbers_214 ?_
    refine lv_iload hx hb dX9_numbers_215 (lv_at hl 7 rfl) ?_
    refine lv_iadd hx hb dX9_numbers_217 ?_
    obtain ⟨b29, hf⟩ := gd_some hf
    refine al_49 X hK hW b29 dX9_numbers_218 ?_
    refine lv_icmp_ge (tgt := 226) hx hb dX9_numbers_219 (by decide) (fun c30 => ?_) (fun c30 => ?_)
    · rw [if_pos c30] at hf
      refine lv_iconst (v := 0) hx hb dX9_numbers_226 (by decide) ?_
      obtain ⟨b31, hf⟩ := gd_some hf
      obtain ⟨N32, hN32, hf⟩ := lt1_some hf
      refine as_49 X hK hW hS b31 hN32 dX9_numbers_227 (fun H locs hW hS => ?_)
      refine lv_goto (tgt := 253) hx hb dX9_numbers_228 (by decide) ?_
      obtain rfl := sp1 hf
      exact e_v ⟨hx, hb, hr, hlk⟩ hW hS dX9_numbers_253
    · rw [if_neg c30] at hf
      refine lv_iconst (v := 1) hx hb dX9_numbers_222 (by decide) ?_
      refine lv_goto (tgt := 227) hx hb dX9_numbers_223 (by decide) ?_
      obtain ⟨b33, hf⟩ := gd_some hf
      obtain ⟨N34, hN34, hf⟩ := lt1_some hf
      refine as_49 X hK hW hS b33 hN34 dX9_numbers_227 (fun H locs hW hS => ?_)
      refine lv_goto (tgt := 253) hx hb dX9_numbers_228 (by decide) ?_
      obtain rfl := sp1 hf
      exact e_v ⟨hx, hb, hr, hlk⟩ hW hS dX9_numbers_253
  rw [if_neg c27] at hf
  refine lv_tableOut (tgt := 231) hx hb dX9_numbers_18 (by have := lv_neT (a := 0) c1 (by decide); have := lv_neT (a := 1) c4 (by decide); have := lv_neT (a := 2) c8 (by decide); have := lv_neT (a := 3) c12 (by decide); have := lv_neT (a := 4) c16 (by decide); have := lv_neT (a := 5) c27 (by decide); omega) (by decide) ?_
  refine lv_iload_n hx hb dX9_numbers_231 rfl (lv_at hl 4 rfl) ?_
  refine lv_bipush (v := 6) hx hb dX9_numbers_232 (by decide) ?_
  refine lv_icmp_eq (tgt := 247) hx hb dX9_numbers_234 (by decide) (fun c35 => ?_) (fun c35 => ?_)
  · rw [if_pos c35] at hf
    refine lv_aload_n hx hb dX9_numbers_247 rfl (lv_at hl 2 rfl) ?_
    refine lv_iload_n hx hb dX9_numbers_248 rfl (lv_at hl 3 rfl) ?_
    refine lv_iload_n hx hb dX9_numbers_249 rfl (lv_at hl 5 rfl) ?_
    obtain ⟨N37, h36, hf⟩ := ob1_some hf
    refine k_yX9_goesTo X hK hZ hW hS hl.1 h36 mlRX9_213 ⟨Nat.le_of_ble_eq_true rfl, Nat.le_of_ble_eq_true rfl⟩ ⟨Nat.le_of_ble_eq_true rfl, Nat.le_of_ble_eq_true rfl⟩ (Nat.le_of_ble_eq_true rfl) dX9_numbers_250 (fun H locs hW hS => ?_)
    obtain rfl := sp1 hf
    exact e_v ⟨hx, hb, hr, hlk⟩ hW hS dX9_numbers_253
  · rw [if_neg c35] at hf
    refine lv_aload_n hx hb dX9_numbers_237 rfl (lv_at hl 2 rfl) ?_
    refine g_9_30 X hK hW flRX9_95 dX9_numbers_238 ?_
    refine lv_iload hx hb dX9_numbers_241 (lv_at hl 0 rfl) ?_
    obtain ⟨b38, hf⟩ := gd_some hf
    refine al_49 X hK hW b38 dX9_numbers_243 ?_
    refine lv_if_ne (tgt := 253) hx hb dX9_numbers_244 (by decide) (fun c39 => ?_) (fun c39 => ?_)
    · rw [if_neg c39] at hf
      obtain rfl := sp1 hf
      exact e_v ⟨hx, hb, hr, hlk⟩ hW hS dX9_numbers_253
    · rw [if_pos c39] at hf
      refine lv_aload_n hx hb dX9_numbers_247 rfl (lv_at hl 2 rfl) ?_
      refine lv_iload_n hx hb dX9_numbers_248 rfl (lv_at hl 3 rfl) ?_
      refine lv_iload_n hx hb dX9_numbers_249 rfl (lv_at hl 5 rfl) ?_
      obtain ⟨N41, h40, hf⟩ := ob1_some hf
      refine k_yX9_goesTo X hK hZ hW hS hl.1 h40 mlRX9_213 ⟨Nat.le_of_ble_eq_true rfl, Nat.le_of_ble_eq_true rfl⟩ ⟨Nat.le_of_ble_eq_true rfl, Nat.le_of_ble_eq_true rfl⟩ (Nat.le_of_ble_eq_true rfl) dX9_numbers_250 (fun H locs hW hS => ?_)
      obtain rfl := sp1 hf
      exact e_v ⟨hx, hb, hr, hlk⟩ hW hS dX9_numbers_253
set_option maxRecDepth 100000 in
set_option maxHeartbeats 4000000 in
theorem k_yX9_numbers {p : Program} {l : Launch} {e : Env} {R : Room} {s : State} {m : MethodId} {args : Array Value} {below : List Frame} {meth : Method} {c : Code} {H : Heap} {locs : List Loc} {cells slots : Nat} {Q : State → Prop} {cc : ByteArray} {pc nL index : Nat} {ret : Option FieldType} {own : String} {ls : Array Slot} {rest : List Value} {E : Lay} {ad : Nat → Nat → Nat} {M N : Mem} (X : CX p s m args meth c cc nL ret own) (hK : KK E s) (hZ : ZZ E s) (hW : WD E ad (M, N) H) (hS : va_S (ow E) s.heap H locs) (hsz : ls.size = nL) {x1 : Int32} {x2 : Int32} {x3 : Int32} {x4 : Int32} {x5 : Int32} {Nr : Mem} (hf : f_yX9_numbers N x1 x2 x3 x4 x5 = some Nr) (hn : Cond.methodLink own index yX9_numbers ∈ TB) (hR : 1 + 1 ≤ R.frames ∧ 8 + (8 + 11) + 23 ≤ R.locals) (hC : cells ≤ R.cells ∧ slots ≤ R.slots) (h8 : (rest.map fun v => v.category).sum ≤ 8) (hdg : decode cc pc = .ok (.invokevirtual index, 3)) (kk : ∀ (H1 : Heap) (locs1 : List Loc), WD E ad (M, Nr) H1 → va_S (ow E) s.heap H1 locs1 → W p l e R s m args below meth c H1 locs1 cells slots Q (F0 m (pc + 3) ls (rest))) : W p l e R s m args below meth c H locs cells slots Q (F0 m pc ls (.int x5 :: .int x4 :: .int x3 :: .int x2 :: .int x1 :: .ref (ad 20 0) :: rest)) := by
  refine va_callv (va_runV (C := RX9) (As := [.int x1, .int x2, .int x3, .int x4, .int x5]) (rest := rest) ⟨X.1, X.2.1, X.2.2.1, X.2.2.2.1, X.2.2.2.2.1⟩ (c_yX9_numbers l E ad M N x1 x2 x3 x4 x5 Nr hf) (cwV 5 X.2.2.2.2.1 (gV hn im_yX9_numbers se_yX9_numbers iniRX9 cd_yX9_numbers) rfl rfl rfl (by decide +kernel) hR) ⟨fun a U g mk q => ⟨q.1, q.2.calling⟩, va_recv hK.1 (hW.at (c := 20) (i := 0) Nat.zero_lt_one rfl) (ci := 9) (q0 := 0) rfl rfl, fun U hU hw => ⟨rfl, PB.at hW hK hZ hS hU hw⟩⟩ rfl rfl hsz rfl (lv_room h8) hdg hC) hS (fun _ _ h => h) (fun _ h => h) (fun u t H1 locs1 ht hvm hw hB hz1 hk1 hS1 => ?_)
  subst hw
  rw [ht] at hB
  exact kk H1 locs1 hB hS1
def f_yX9_holds (N : Mem) (x1 : Int32) (x2 : Int32) (x3 : Int32) (x4 : Int32) (x5 : Int32) : Option Mem := (if x2 = 8 then gd (¬ (((6 * x1) + x4) < 0 ∨ 36 ≤ ((6 * x1) + x4).toNatClampNeg)) ((if (N 49 0 ((6 * x1) + x4).toNatClampNeg) = (-1) then gd (¬ (x3 < 0 ∨ 36 ≤ x3.toNatClampNeg)) (lt1 (mp N 50 0 x3.toNatClampNeg (-4)) (fun N41 => (some N41))) else ob1 (f_yX9_isThing N (N 49 0 ((6 * x1) + x4).toNatClampNeg)) (fun r43 => (if r43 = 0 then ob1 (f_yX9_bad N 2) (fun N49 => (some N49)) else gd (¬ (x3 < 0 ∨ 36 ≤ x3.toNatClampNeg)) (lt1 (mp N 50 0 x3.toNatClampNeg (N 49 0 ((6 * x1) + x4).toNatClampNeg)) (fun N47 => (some N47))))))) else (if x2 = 9 then gd (¬ (((6 * x1) + x5) < 0 ∨ 36 ≤ ((6 * x1) + x5).toNatClampNeg)) ((if (N 20 0 0) = 32 then ob1 (f_yX9_bad N 11) (fun N17 => (some N17)) else (if x4 ≤ 3 then ob2 (f_yX9_make N x4 (N 49 0 ((6 * x1) + x5).toNatClampNeg)) (fun r21 N22 => gd (¬ (x3 < 0 ∨ 36 ≤ x3.toNatClampNeg)) (lt1 (mp N22 50 0 x3.toNatClampNeg r21) (fun N24 => (some N24)))) else (if (N 49 0 ((6 * x1) + x5).toNatClampNeg) ≤ 12 then (if 0 ≤ (N 49 0 ((6 * x1) + x5).toNatClampNeg) then ob2 (f_yX9_make N x4 (N 49 0 ((6 * x1) + x5).toNatClampNeg)) (fun r29 N30 => gd (¬ (x3 < 0 ∨ 36 ≤ x3.toNatClampNeg)) (lt1 (mp N30 50 0 x3.toNatClampNeg r29) (fun N32 => (some N32)))) else ob1 (f_yX9_bad N 5) (fun N34 => (some N34))) else ob1 (f_yX9_bad N 11) (fun N36 => (some N36)))))) else (if x2 = 10 then gd (¬ (((6 * x1) + x4) < 0 ∨ 36 ≤ ((6 * x1) + x4).toNatClampNeg)) (gd (¬ (((6 * x1) + x5) < 0 ∨ 36 ≤ ((6 * x1) + x5).toNatClampNeg)) ((if (N 50 0 ((6 * x1) + x4).toNatClampNeg) = (N 50 0 ((6 * x1) + x5).toNatClampNeg) then gd (¬ (x3 < 0 ∨ 36 ≤ x3.toNatClampNeg)) (lt1 (mp N 49 0 x3.toNatClampNeg 1) (fun N13 => (some N13))) else gd (¬ (x3 < 0 ∨ 36 ≤ x3.toNatClampNeg)) (lt1 (mp N 49 0 x3.toNatClampNeg 0) (fun N11 => (some N11)))))) else gd (¬ (((6 * x1) + x4) < 0 ∨ 36 ≤ ((6 * x1) + x4).toNatClampNeg)) (gd (¬ (x3 < 0 ∨ 36 ≤ x3.toNatClampNeg)) (lt1 (mp N 50 0 x3.toNatClampNeg (N 50 0 ((6 * x1) + x4).toNatClampNeg)) (fun N6 => (some N6)))))))
set_option maxRecDepth 100000 in
set_option maxHeartbeats 4000000 in
theorem c_yX9_holds (l : Launch) (E : Lay) (ad : Nat → Nat → Nat) (M N : Mem) (x1 : Int32) (x2 : Int32) (x3 : Int32) (x4 : Int32) (x5 : Int32) (Nr : Mem) (hf : f_yX9_holds N x1 x2 x3 x4 x5 = some Nr) : Met l yX9_holds (Cond.code yX9_holds cX9_holds 7 none :: TB) (rmm 2 43) (va_Pc [.ref (ad 20 0), .int x1, .int x2, .int x3, .int x4, .int x5] (PB E ad (M, N))) (Qv E ad (M, Nr)) 0 0 (ow E) := by
  refine Met.ofW (cc := cX9_holds) (maxL := 7) (ret := none) (by decide) rfl ?_
  intro p e s m args below meth c s₁ B hml hv
  obtain ⟨rfl, hW, hK, hZ⟩ := hv
  have hT : ∀ w ∈ TB, w.before _ s = true := fun w h => atoms_spec (ws := (Cond.code yX9_holds cX9_holds 7 none :: TB)) B.pre w (List.mem_cons_of_mem _ h)
  have X : CX p s m _ meth c cX9_holds 7 none RX9 := ⟨B.exec, B.bytes, hml, findClass_of_methodNamed B.named, hT, B.returns, B.notSynchronized⟩
  obtain ⟨hx, hb, hml, hown, hT, hr, hlk⟩ := id X
  have hS : va_S (ow E) s.heap s.heap [] := va_S.rf
  have hl := lv_entry ([.ref (ad 20 0), .int x1, .int x2, .int x3, .int x4, .int x5]) (n := 7) (Nat.le_of_ble_eq_true rfl)
  rw [lg_entry_eq]
  generalize (lg_sl ([.ref (ad 20 0), .int x1, .int x2, .int x3, .int x4, .int x5]) ++ List.replicate (7 - (lg_sl ([.ref (ad 20 0), .int x1, .int x2, .int x3, .int x4, .int x5])).length) Slot.unset).toArray = ls at hl ⊢
  have hl : lv_has ls 7 [(0, .ref (ad 20 0)), (1, .int x1), (2, .int x2), (3, .int x3), (4, .int x4), (5, .int x5)] := hl
  unfold f_yX9_holds at hf
  refine lv_iload_n hx hb dX9_holds_0 rfl (lv_at hl 2 rfl) ?_
  refine lv_bipush (v := 8) hx hb dX9_holds_1 (by decide) ?_
  refine lv_icmp_ne (tgt := 65) hx hb dX9_holds_3 (by decide) (fun c1 => ?_) (fun c1 => ?_)
  · rw [if_neg c1] at hf
    refine lv_iload_n hx hb dX9_holds_65 rfl (lv_at hl 2 rfl) ?_
    refine lv_bipush (v := 9) hx hb dX9_holds_66 (by decide) ?_
    refine lv_icmp_ne (tgt := 152) hx hb dX9_holds_68 (by decide) (fun c2 => ?_) (fun c2 => ?_)
    · rw [if_neg c2] at hf
      refine lv_iload_n hx hb dX9_holds_152 rfl (lv_at hl 2 rfl) ?_
      refine lv_bipush (v := 10) hx hb dX9_holds_153 (by decide) ?_
      refine lv_icmp_ne (tgt := 199) hx hb dX9_holds_155 (by decide) (fun c3 => ?_) (fun c3 => ?_)
      · rw [if_neg c3] at hf
        refine lv_aload_n hx hb dX9_holds_199 rfl (lv_at hl 0 rfl) ?_
        refine g_9_31 X hK hW flRX9_98 dX9_holds_200 ?_
        refine lv_iload_n hx hb dX9_holds_203 rfl (lv_at hl 3 rfl) ?_
        refine lv_aload_n hx hb dX9_holds_204 rfl (lv_at hl 0 rfl) ?_
        refine g_9_31 X hK hW flRX9_98 dX9_holds_205 ?_
        refine lv_bipush (v := 6) hx hb dX9_holds_208 (by decide) ?_
        refine lv_iload_n hx hb dX9_holds_210 rfl (lv_at hl 1 rfl) ?_
        refine lv_imul hx hb dX9_holds_211 ?_
        refine lv_iload hx hb dX9_holds_212 (lv_at hl 4 rfl) ?_
        refine lv_iadd hx hb dX9_holds_214 ?_
        obtain ⟨b4, hf⟩ := gd_some hf
        refine al_50 X hK hW b4 dX9_holds_215 ?_
        obtain ⟨b5, hf⟩ := gd_some hf
        obtain ⟨N6, hN6, hf⟩ := lt1_some hf
        refine as_50 X hK hW hS b5 hN6 dX9_holds_216 (fun H locs hW hS => ?_)
        obtain rfl := sp1 hf
        exact e_v ⟨hx, hb, hr, hlk⟩ hW hS dX9_holds_217
      · rw [if_pos c3] at hf
        refine lv_aload_n hx hb dX9_holds_158 rfl (lv_at hl 0 rfl) ?_
        refine g_9_30 X hK hW flRX9_95 dX9_holds_159 ?_
        refine lv_iload_n hx hb dX9_holds_162 rfl (lv_at hl 3 rfl) ?_
        refine lv_aload_n hx hb dX9_holds_163 rfl (lv_at hl 0 rfl) ?_
        refine g_9_31 X hK hW flRX9_98 dX9_holds_164 ?_
        refine lv_bipush (v := 6) hx hb dX9_holds_167 (by decide) ?_
        refine lv_iload_n hx hb dX9_holds_169 rfl (lv_at hl 1 rfl) ?_
        refine lv_imul hx hb dX9_holds_170 ?_
        refine lv_iload hx hb dX9_holds_171 (lv_at hl 4 rfl) ?_
        refine lv_iadd hx hb dX9_holds_173 ?_
        obtain ⟨b7, hf⟩ := gd_some hf
        refine al_50 X hK hW b7 dX9_holds_174 ?_
        refine lv_aload_n hx hb dX9_holds_175 rfl (lv_at hl 0 rfl) ?_
        refine g_9_31 X hK hW flRX9_98 dX9_holds_176 ?_
        refine lv_bipush (v := 6) hx hb dX9_holds_179 (by decide) ?_
        refine lv_iload_n hx hb dX9_holds_181 rfl (lv_at hl 1 rfl) ?_
        refine lv_imul hx hb dX9_holds_182 ?_
        refine lv_iload hx hb dX9_holds_183 (lv_at hl 5 rfl) ?_
        refine lv_iadd hx hb dX9_holds_185 ?_
        obtain ⟨b8, hf⟩ := gd_some hf
        refine al_50 X hK hW b8 dX9_holds_186 ?_
        refine lv_icmp_ne (tgt := 194) hx hb dX9_holds_187 (by decide) (fun c9 => ?_) (fun c9 => ?_)
        · rw [if_neg c9] at hf
          refine lv_iconst (v := 0) hx hb dX9_holds_194 (by decide) ?_
          obtain ⟨b10, hf⟩ := gd_some hf
          obtain ⟨N11, hN11, hf⟩ := lt1_some hf
          refine as_49 X hK hW hS b10 hN11 dX9_holds_195 (fun H locs hW hS => ?_)
          refine lv_goto (tgt := 217) hx hb dX9_holds_196 (by decide) ?_
          obtain rfl := sp1 hf
          exact e_v ⟨hx, hb, hr, hlk⟩ hW hS dX9_holds_217
        · rw [if_pos c9] at hf
          refine lv_iconst (v := 1) hx hb dX9_holds_190 (by decide) ?_
          refine lv_goto (tgt := 195) hx hb dX9_holds_191 (by decide) ?_
          obtain ⟨b12, hf⟩ := gd_some hf
          obtain ⟨N13, hN13, hf⟩ := lt1_some hf
          refine as_49 X hK hW hS b12 hN13 dX9_holds_195 (fun H locs hW hS => ?_)
          refine lv_goto (tgt := 217) hx hb dX9_holds_196 (by decide) ?_
          obtain rfl := sp1 hf
          exact e_v ⟨hx, hb, hr, hlk⟩ hW hS dX9_holds_217
    · rw [if_pos c2] at hf
      refine lv_aload_n hx hb dX9_holds_71 rfl (lv_at hl 0 rfl) ?_
      refine g_9_30 X hK hW flRX9_95 dX9_holds_72 ?_
      refine lv_bipush (v := 6) hx hb dX9_holds_75 (by decide) ?_
      refine lv_iload_n hx hb dX9_holds_77 rfl (lv_at hl 1 rfl) ?_
      refine lv_imul hx hb dX9_holds_78 ?_
      refine lv_iload hx hb dX9_holds_79 (lv_at hl 5 rfl) ?_
      refine lv_iadd hx hb dX9_holds_81 ?_
      obtain ⟨b14, hf⟩ := gd_some hf
      refine al_49 X hK hW b14 dX9_holds_82 ?_
      refine lv_istore (lv' := [(6, .int (N 49 0 ((6 * x1) + x5).toNatClampNeg)), (0, .ref (ad 20 0)), (1, .int x1), (2, .int x2), (3, .int x3), (4, .int x4), (5, .int x5)]) hx hb dX9_holds_83 hl (by decide) rfl (fun ls hl => ?_)
      refine lv_aload_n hx hb dX9_holds_85 rfl (lv_at hl 1 rfl) ?_
      refine g_9_0 X hK hW flRX9_111 dX9_holds_86 ?_
      refine lv_bipush (v := 32) hx hb dX9_holds_89 (by decide) ?_
      refine lv_icmp_eq (tgt := 107) hx hb dX9_holds_91 (by decide) (fun c15 => ?_) (fun c15 => ?_)
      · rw [if_pos c15] at hf
        refine lv_aload_n hx hb dX9_holds_107 rfl (lv_at hl 1 rfl) ?_
        refine lv_bipush (v := 11) hx hb dX9_holds_108 (by decide) ?_
        obtain ⟨N17, h16, hf⟩ := ob1_some hf
        refine k_yX9_bad X hK hZ hW hS hl.1 h16 mlRX9_245 ⟨Nat.le_of_ble_eq_true rfl, Nat.le_of_ble_eq_true rfl⟩ ⟨Nat.le_of_ble_eq_true rfl, Nat.le_of_ble_eq_true rfl⟩ (Nat.le_of_ble_eq_true rfl) dX9_holds_110 (fun H locs hW hS => ?_)
        refine lv_goto (tgt := 149) hx hb dX9_holds_113 (by decide) ?_
        refine lv_goto (tgt := 217) hx hb dX9_holds_149 (by decide) ?_
        obtain rfl := sp1 hf
        exact e_v ⟨hx, hb, hr, hlk⟩ hW hS dX9_holds_217
      · rw [if_neg c15] at hf
        refine lv_iload hx hb dX9_holds_94 (lv_at hl 5 rfl) ?_
        refine lv_iconst (v := 3) hx hb dX9_holds_96 (by decide) ?_
        refine lv_icmp_le (tgt := 116) hx hb dX9_holds_97 (by decide) (fun c18 => ?_) (fun c18 => ?_)
        · rw [if_pos c18] at hf
          refine lv_iload hx hb dX9_holds_116 (lv_at hl 5 rfl) ?_
          refine lv_iconst (v := 3) hx hb dX9_holds_118 (by decide) ?_
          refine lv_icmp_le (tgt := 135) hx hb dX9_holds_119 (by decide) (fun c19 => ?_) (fun c19 => ?_)
          · skip
            refine lv_aload_n hx hb dX9_holds_135 rfl (lv_at hl 1 rfl) ?_
            refine g_9_31 X hK hW flRX9_98 dX9_holds_136 ?_
            refine lv_iload_n hx hb dX9_holds_139 rfl (lv_at hl 4 rfl) ?_
            refine lv_aload_n hx hb dX9_holds_140 rfl (lv_at hl 1 rfl) ?_
            refine lv_iload hx hb dX9_holds_141 (lv_at hl 5 rfl) ?_
            refine lv_iload hx hb dX9_holds_143 (lv_at hl 0 rfl) ?_
            obtain ⟨r21, N22, h20, hf⟩ := ob2_some hf
            refine k_yX9_make X hK hZ hW hS hl.1 h20 mlRX9_118 ⟨Nat.le_of_ble_eq_true rfl, Nat.le_of_ble_eq_true rfl⟩ ⟨Nat.le_of_ble_eq_true rfl, Nat.le_of_ble_eq_true rfl⟩ (Nat.le_of_ble_eq_true rfl) dX9_holds_145 (fun H locs hW hS => ?_)
            obtain ⟨b23, hf⟩ := gd_some hf
            obtain ⟨N24, hN24, hf⟩ := lt1_some hf
            refine as_50 X hK hW hS b23 hN24 dX9_holds_148 (fun H locs hW hS => ?_)
            refine lv_goto (tgt := 217) hx hb dX9_holds_149 (by decide) ?_
            obtain rfl := sp1 hf
            exact e_v ⟨hx, hb, hr, hlk⟩ hW hS dX9_holds_217
          · exfalso; have := q_le (b := 3) (by decide) c18; have := q_nle (b := 3) (by decide) c19; omega
        · rw [if_neg c18] at hf
          refine lv_iload hx hb dX9_holds_100 (lv_at hl 0 rfl) ?_
          refine lv_bipush (v := 12) hx hb dX9_holds_102 (by decide) ?_
          refine lv_icmp_le (tgt := 116) hx hb dX9_holds_104 (by decide) (fun c25 => ?_) (fun c25 => ?_)
          · rw [if_pos c25] at hf
            refine lv_iload hx hb dX9_holds_116 (lv_at hl 5 rfl) ?_
            refine lv_iconst (v := 3) hx hb dX9_holds_118 (by decide) ?_
            refine lv_icmp_le (tgt := 135) hx hb dX9_holds_119 (by decide) (fun c26 => ?_) (fun c26 => ?_)
            · exfalso; have := q_nle (b := 3) (by decide) c18; have := q_le (b := 3) (by decide) c26; omega
            · skip
              refine lv_iload hx hb dX9_holds_122 (lv_at hl 0 rfl) ?_
              refine lv_if_ge (tgt := 135) hx hb dX9_holds_124 (by decide) (fun c27 => ?_) (fun c27 => ?_)
              · rw [if_pos c27] at hf
                refine lv_aload_n hx hb dX9_holds_135 rfl (lv_at hl 1 rfl) ?_
                refine g_9_31 X hK hW flRX9_98 dX9_holds_136 ?_
                refine lv_iload_n hx hb dX9_holds_139 rfl (lv_at hl 4 rfl) ?_
                refine lv_aload_n hx hb dX9_holds_140 rfl (lv_at hl 1 rfl) ?_
                refine lv_iload hx hb dX9_holds_141 (lv_at hl 5 rfl) ?_
                refine lv_iload hx hb dX9_holds_143 (lv_at hl 0 rfl) ?_
                obtain ⟨r29, N30, h28, hf⟩ := ob2_some hf
                refine k_yX9_make X hK hZ hW hS hl.1 h28 mlRX9_118 ⟨Nat.le_of_ble_eq_true rfl, Nat.le_of_ble_eq_true rfl⟩ ⟨Nat.le_of_ble_eq_true rfl, Nat.le_of_ble_eq_true rfl⟩ (Nat.le_of_ble_eq_true rfl) dX9_holds_145 (fun H locs hW hS => ?_)
                obtain ⟨b31, hf⟩ := gd_some hf
                obtain ⟨N32, hN32, hf⟩ := lt1_some hf
                refine as_50 X hK hW hS b31 hN32 dX9_holds_148 (fun H locs hW hS => ?_)
                refine lv_goto (tgt := 217) hx hb dX9_holds_149 (by decide) ?_
                obtain rfl := sp1 hf
                exact e_v ⟨hx, hb, hr, hlk⟩ hW hS dX9_holds_217
              · rw [if_neg c27] at hf
                refine lv_aload_n hx hb dX9_holds_127 rfl (lv_at hl 1 rfl) ?_
                refine lv_iconst (v := 5) hx hb dX9_holds_128 (by decide) ?_
                obtain ⟨N34, h33, hf⟩ := ob1_some hf
                refine k_yX9_bad X hK hZ hW hS hl.1 h33 mlRX9_245 ⟨Nat.le_of_ble_eq_true rfl, Nat.le_of_ble_eq_true rfl⟩ ⟨Nat.le_of_ble_eq_true rfl, Nat.le_of_ble_eq_true rfl⟩ (Nat.le_of_ble_eq_true rfl) dX9_holds_129 (fun H locs hW hS => ?_)
                refine lv_goto (tgt := 149) hx hb dX9_holds_132 (by decide) ?_
                refine lv_goto (tgt := 217) hx hb dX9_holds_149 (by decide) ?_
                obtain rfl := sp1 hf
                exact e_v ⟨hx, hb, hr, hlk⟩ hW hS dX9_holds_217
          · rw [if_neg c25] at hf
            refine lv_aload_n hx hb dX9_holds_107 rfl (lv_at hl 1 rfl) ?_
            refine lv_bipush (v := 11) hx hb dX9_holds_108 (by decide) ?_
            obtain ⟨N36, h35, hf⟩ := ob1_some hf
            refine k_yX9_bad X hK hZ hW hS hl.1 h35 mlRX9_245 ⟨Nat.le_of_ble_eq_true rfl, Nat.le_of_ble_eq_true rfl⟩ ⟨Nat.le_of_ble_eq_true rfl, Nat.le_of_ble_eq_true rfl⟩ (Nat.le_of_ble_eq_true rfl) dX9_holds_110 (fun H locs hW hS => ?_)
            refine lv_goto (tgt := 149) hx hb dX9_holds_113 (by decide) ?_
            refine lv_goto (tgt := 217) hx hb dX9_holds_149 (by decide) ?_
            obtain rfl := sp1 hf
            exact e_v ⟨hx, hb, hr, hlk⟩ hW hS dX9_holds_217
  · rw [if_pos c1] at hf
    refine lv_aload_n hx hb dX9_holds_6 rfl (lv_at hl 0 rfl) ?_
    refine g_9_30 X hK hW flRX9_95 dX9_holds_7 ?_
    refine lv_bipush (v := 6) hx hb dX9_holds_10 (by decide) ?_
    refine lv_iload_n hx hb dX9_holds_12 rfl (lv_at hl 1 rfl) ?_
    refine lv_imul hx hb dX9_holds_13 ?_
    refine lv_iload hx hb dX9_holds_14 (lv_at hl 4 rfl) ?_
    refine lv_iadd hx hb dX9_holds_16 ?_
    obtain ⟨b37, hf⟩ := gd_some hf
    refine al_49 X hK hW b37 dX9_holds_17 ?_
    refine lv_istore (lv' := [(6, .int (N 49 0 ((6 * x1) + x4).toNatClampNeg)), (0, .ref (ad 20 0)), (1, .int x1), (2, .int x2), (3, .int x3), (4, .int x4), (5, .int x5)]) hx hb dX9_holds_18 hl (by decide) rfl (fun ls hl => ?_)
    refine lv_iload hx hb dX9_holds_20 (lv_at hl 0 rfl) ?_
    refine lv_iconst (v := -1) hx hb dX9_holds_22 (by decide) ?_
    refine lv_icmp_eq (tgt := 43) hx hb dX9_holds_23 (by decide) (fun c38 => ?_) (fun c38 => ?_)
    · rw [if_pos c38] at hf
      refine lv_aload_n hx hb dX9_holds_43 rfl (lv_at hl 1 rfl) ?_
      refine g_9_31 X hK hW flRX9_98 dX9_holds_44 ?_
      refine lv_iload_n hx hb dX9_holds_47 rfl (lv_at hl 4 rfl) ?_
      refine lv_iload hx hb dX9_holds_48 (lv_at hl 0 rfl) ?_
      refine lv_iconst (v := -1) hx hb dX9_holds_50 (by decide) ?_
      refine lv_icmp_ne (tgt := 59) hx hb dX9_holds_51 (by decide) (fun c39 => ?_) (fun c39 => ?_)
      · exfalso; have := q_eq (b := -1) (by decide) c38; have := q_ne (b := -1) (by decide) c39; omega
      · skip
        refine lv_bipush (v := -4) hx hb dX9_holds_54 (by decide) ?_
        refine lv_goto (tgt := 61) hx hb dX9_holds_56 (by decide) ?_
        obtain ⟨b40, hf⟩ := gd_some hf
        obtain ⟨N41, hN41, hf⟩ := lt1_some hf
        refine as_50 X hK hW hS b40 hN41 dX9_holds_61 (fun H locs hW hS => ?_)
        refine lv_goto (tgt := 217) hx hb dX9_holds_62 (by decide) ?_
        obtain rfl := sp1 hf
        exact e_v ⟨hx, hb, hr, hlk⟩ hW hS dX9_holds_217
    · rw [if_neg c38] at hf
      refine lv_aload_n hx hb dX9_holds_26 rfl (lv_at hl 1 rfl) ?_
      refine lv_iload hx hb dX9_holds_27 (lv_at hl 0 rfl) ?_
      obtain ⟨r43, h42, hf⟩ := ob1_some hf
      refine k_yX9_isThing X hK hZ hW hS hl.1 h42 mlRX9_122 ⟨Nat.le_of_ble_eq_true rfl, Nat.le_of_ble_eq_true rfl⟩ ⟨Nat.le_of_ble_eq_true rfl, Nat.le_of_ble_eq_true rfl⟩ (Nat.le_of_ble_eq_true rfl) dX9_holds_29 (fun H locs hW hS => ?_)
      refine lv_if_ne (tgt := 43) hx hb dX9_holds_32 (by decide) (fun c44 => ?_) (fun c44 => ?_)
      · rw [if_neg c44] at hf
        refine lv_aload_n hx hb dX9_holds_43 rfl (lv_at hl 1 rfl) ?_
        refine g_9_31 X hK hW flRX9_98 dX9_holds_44 ?_
        refine lv_iload_n hx hb dX9_holds_47 rfl (lv_at hl 4 rfl) ?_
        refine lv_iload hx hb dX9_holds_48 (lv_at hl 0 rfl) ?_
        refine lv_iconst (v := -1) hx hb dX9_holds_50 (by decide) ?_
        refine lv_icmp_ne (tgt := 59) hx hb dX9_holds_51 (by decide) (fun c45 => ?_) (fun c45 => ?_)
        · skip
          refine lv_iload hx hb dX9_holds_59 (lv_at hl 0 rfl) ?_
          obtain ⟨b46, hf⟩ := gd_some hf
          obtain ⟨N47, hN47, hf⟩ := lt1_some hf
          refine as_50 X hK hW hS b46 hN47 dX9_holds_61 (fun H locs hW hS => ?_)
          refine lv_goto (tgt := 217) hx hb dX9_holds_62 (by decide) ?_
          obtain rfl := sp1 hf
          exact e_v ⟨hx, hb, hr, hlk⟩ hW hS dX9_holds_217
        · exfalso; have := q_ne (b := -1) (by decide) c38; have := q_eq (b := -1) (by decide) c45; omega
      · rw [if_pos c44] at hf
        refine lv_aload_n hx hb dX9_holds_35 rfl (lv_at hl 1 rfl) ?_
        refine lv_iconst (v := 2) hx hb dX9_holds_36 (by decide) ?_
        obtain ⟨N49, h48, hf⟩ := ob1_some hf
        refine k_yX9_bad X hK hZ hW hS hl.1 h48 mlRX9_245 ⟨Nat.le_of_ble_eq_true rfl, Nat.le_of_ble_eq_true rfl⟩ ⟨Nat.le_of_ble_eq_true rfl, Nat.le_of_ble_eq_true rfl⟩ (Nat.le_of_ble_eq_true rfl) dX9_holds_37 (fun H locs hW hS => ?_)
        refine lv_goto (tgt := 62) hx hb dX9_holds_40 (by decide) ?_
        refine lv_goto (tgt := 217) hx hb dX9_holds_62 (by decide) ?_
        obtain rfl := sp1 hf
        exact e_v ⟨hx, hb, hr, hlk⟩ hW hS dX9_holds_217
set_option maxRecDepth 100000 in
set_option maxHeartbeats 4000000 in
theorem k_yX9_holds {p : Program} {l : Launch} {e : Env} {R : Room} {s : State} {m : MethodId} {args : Array Value} {below : List Frame} {meth : Method} {c : Code} {H : Heap} {locs : List Loc} {cells slots : Nat} {Q : State → Prop} {cc : ByteArray} {pc nL index : Nat} {ret : Option FieldType} {own : String} {ls : Array Slot} {rest : List Value} {E : Lay} {ad : Nat → Nat → Nat} {M N : Mem} (X : CX p s m args meth c cc nL ret own) (hK : KK E s) (hZ : ZZ E s) (hW : WD E ad (M, N) H) (hS : va_S (ow E) s.heap H locs) (hsz : ls.size = nL) {x1 : Int32} {x2 : Int32} {x3 : Int32} {x4 : Int32} {x5 : Int32} {Nr : Mem} (hf : f_yX9_holds N x1 x2 x3 x4 x5 = some Nr) (hn : Cond.methodLink own index yX9_holds ∈ TB) (hR : 2 + 1 ≤ R.frames ∧ 8 + (7 + 11) + 43 ≤ R.locals) (hC : cells ≤ R.cells ∧ slots ≤ R.slots) (h8 : (rest.map fun v => v.category).sum ≤ 8) (hdg : decode cc pc = .ok (.invokevirtual index, 3)) (kk : ∀ (H1 : Heap) (locs1 : List Loc), WD E ad (M, Nr) H1 → va_S (ow E) s.heap H1 locs1 → W p l e R s m args below meth c H1 locs1 cells slots Q (F0 m (pc + 3) ls (rest))) : W p l e R s m args below meth c H locs cells slots Q (F0 m pc ls (.int x5 :: .int x4 :: .int x3 :: .int x2 :: .int x1 :: .ref (ad 20 0) :: rest)) := by
  refine va_callv (va_runV (C := RX9) (As := [.int x1, .int x2, .int x3, .int x4, .int x5]) (rest := rest) ⟨X.1, X.2.1, X.2.2.1, X.2.2.2.1, X.2.2.2.2.1⟩ (c_yX9_holds l E ad M N x1 x2 x3 x4 x5 Nr hf) (cwV 5 X.2.2.2.2.1 (gV hn im_yX9_holds se_yX9_holds iniRX9 cd_yX9_holds) rfl rfl rfl (by decide +kernel) hR) ⟨fun a U g mk q => ⟨q.1, q.2.calling⟩, va_recv hK.1 (hW.at (c := 20) (i := 0) Nat.zero_lt_one rfl) (ci := 9) (q0 := 0) rfl rfl, fun U hU hw => ⟨rfl, PB.at hW hK hZ hS hU hw⟩⟩ rfl rfl hsz rfl (lv_room h8) hdg hC) hS (fun _ _ h => h) (fun _ h => h) (fun u t H1 locs1 ht hvm hw hB hz1 hk1 hS1 => ?_)
  subst hw
  rw [ht] at hB
  exact kk H1 locs1 hB hS1
def f_yX9_boxes (N : Mem) (x1 : Int32) (x2 : Int32) (x3 : Int32) (x4 : Int32) : Option Mem := (if x2 = 13 then gd (¬ (x3 < 0 ∨ 36 ≤ x3.toNatClampNeg)) ((if (N 50 0 x3.toNatClampNeg) = (-4) then ob1 (f_yX9_bad N 1) (fun N49 => (some N49)) else ob1 (f_yX9_isBox N (N 50 0 x3.toNatClampNeg)) (fun r51 => (if r51 = 0 then ob1 (f_yX9_bad N 3) (fun N54 => (some N54)) else gd (¬ ((N 50 0 x3.toNatClampNeg) < 0 ∨ 32 ≤ (N 50 0 x3.toNatClampNeg).toNatClampNeg)) (gd (¬ (((6 * x1) + x4) < 0 ∨ 36 ≤ ((6 * x1) + x4).toNatClampNeg)) (lt1 (mp N 22 0 (N 50 0 x3.toNatClampNeg).toNatClampNeg ((N 22 0 (N 50 0 x3.toNatClampNeg).toNatClampNeg) + (N 49 0 ((6 * x1) + x4).toNatClampNeg))) (fun N61 => (some N61)))))))) else gd (¬ (((6 * x1) + x4) < 0 ∨ 36 ≤ ((6 * x1) + x4).toNatClampNeg)) ((if x2 = 14 then (if (N 50 0 ((6 * x1) + x4).toNatClampNeg) = (-4) then ob1 (f_yX9_bad N 1) (fun N14 => (some N14)) else ob2 (f_yX9_weighs N (N 50 0 ((6 * x1) + x4).toNatClampNeg)) (fun r9 N10 => gd (¬ (x3 < 0 ∨ 36 ≤ x3.toNatClampNeg)) (lt1 (mp N10 49 0 x3.toNatClampNeg r9) (fun N12 => (some N12))))) else (if (N 50 0 ((6 * x1) + x4).toNatClampNeg) = (-4) then ob1 (f_yX9_bad N 1) (fun N18 => (some N18)) else ob1 (f_yX9_isBox N (N 50 0 ((6 * x1) + x4).toNatClampNeg)) (fun r20 => (if r20 = 0 then ob1 (f_yX9_bad N 3) (fun N23 => (some N23)) else (if x2 = 15 then gd (¬ ((N 50 0 ((6 * x1) + x4).toNatClampNeg) < 0 ∨ 32 ≤ (N 50 0 ((6 * x1) + x4).toNatClampNeg).toNatClampNeg)) ((if 2 ≤ (N 21 0 (N 50 0 ((6 * x1) + x4).toNatClampNeg).toNatClampNeg) then gd (¬ (x3 < 0 ∨ 36 ≤ x3.toNatClampNeg)) (lt1 (mp N 49 0 x3.toNatClampNeg 5) (fun N41 => (some N41))) else ob1 (f_yX9_bad N 3) (fun N43 => (some N43)))) else (if x2 = 12 then gd (¬ ((N 50 0 ((6 * x1) + x4).toNatClampNeg) < 0 ∨ 32 ≤ (N 50 0 ((6 * x1) + x4).toNatClampNeg).toNatClampNeg)) (gd (¬ (x3 < 0 ∨ 36 ≤ x3.toNatClampNeg)) (lt1 (mp N 49 0 x3.toNatClampNeg (N 22 0 (N 50 0 ((6 * x1) + x4).toNatClampNeg).toNatClampNeg)) (fun N33 => (some N33)))) else gd (¬ (x3 < 0 ∨ 36 ≤ x3.toNatClampNeg)) (lt1 (mp N 49 0 x3.toNatClampNeg 5) (fun N30 => (some N30)))))))))))
set_option maxRecDepth 100000 in
set_option maxHeartbeats 4000000 in
theorem c_yX9_boxes (l : Launch) (E : Lay) (ad : Nat → Nat → Nat) (M N : Mem) (x1 : Int32) (x2 : Int32) (x3 : Int32) (x4 : Int32) (Nr : Mem) (hf : f_yX9_boxes N x1 x2 x3 x4 = some Nr) : Met l yX9_boxes (Cond.code yX9_boxes cX9_boxes 6 none :: TB) (rmm 2 45) (va_Pc [.ref (ad 20 0), .int x1, .int x2, .int x3, .int x4] (PB E ad (M, N))) (Qv E ad (M, Nr)) 0 0 (ow E) := by
  refine Met.ofW (cc := cX9_boxes) (maxL := 6) (ret := none) (by decide) rfl ?_
  intro p e s m args below meth c s₁ B hml hv
  obtain ⟨rfl, hW, hK, hZ⟩ := hv
  have hT : ∀ w ∈ TB, w.before _ s = true := fun w h => atoms_spec (ws := (Cond.code yX9_boxes cX9_boxes 6 none :: TB)) B.pre w (List.mem_cons_of_mem _ h)
  have X : CX p s m _ meth c cX9_boxes 6 none RX9 := ⟨B.exec, B.bytes, hml, findClass_of_methodNamed B.named, hT, B.returns, B.notSynchronized⟩
  obtain ⟨hx, hb, hml, hown, hT, hr, hlk⟩ := id X
  have hS : va_S (ow E) s.heap s.heap [] := va_S.rf
  have hl := lv_entry ([.ref (ad 20 0), .int x1, .int x2, .int x3, .int x4]) (n := 6) (Nat.le_of_ble_eq_true rfl)
  rw [lg_entry_eq]
  generalize (lg_sl ([.ref (ad 20 0), .int x1, .int x2, .int x3, .int x4]) ++ List.replicate (6 - (lg_sl ([.ref (ad 20 0), .int x1, .int x2, .int x3, .int x4])).length) Slot.unset).toArray = ls at hl ⊢
  have hl : lv_has ls 6 [(0, .ref (ad 20 0)), (1, .int x1), (2, .int x2), (3, .int x3), (4, .int x4)] := hl
  unfold f_yX9_boxes at hf
  refine lv_iload_n hx hb dX9_boxes_0 rfl (lv_at hl 2 rfl) ?_
  refine lv_bipush (v := 13) hx hb dX9_boxes_1 (by decide) ?_
  refine lv_icmp_ne (tgt := 15) hx hb dX9_boxes_3 (by decide) (fun c1 => ?_) (fun c1 => ?_)
  · rw [if_neg c1] at hf
    refine lv_aload_n hx hb dX9_boxes_15 rfl (lv_at hl 0 rfl) ?_
    refine g_9_31 X hK hW flRX9_98 dX9_boxes_16 ?_
    refine lv_bipush (v := 6) hx hb dX9_boxes_19 (by decide) ?_
    refine lv_iload_n hx hb dX9_boxes_21 rfl (lv_at hl 1 rfl) ?_
    refine lv_imul hx hb dX9_boxes_22 ?_
    refine lv_iload hx hb dX9_boxes_23 (lv_at hl 4 rfl) ?_
    refine lv_iadd hx hb dX9_boxes_25 ?_
    obtain ⟨b2, hf⟩ := gd_some hf
    refine al_50 X hK hW b2 dX9_boxes_26 ?_
    refine lv_istore (lv' := [(5, .int (N 50 0 ((6 * x1) + x4).toNatClampNeg)), (0, .ref (ad 20 0)), (1, .int x1), (2, .int x2), (3, .int x3), (4, .int x4)]) hx hb dX9_boxes_27 hl (by decide) rfl (fun ls hl => ?_)
    refine lv_iload_n hx hb dX9_boxes_29 rfl (lv_at hl 3 rfl) ?_
    refine lv_bipush (v := 14) hx hb dX9_boxes_30 (by decide) ?_
    refine lv_icmp_eq (tgt := 76) hx hb dX9_boxes_32 (by decide) (fun c3 => ?_) (fun c3 => ?_)
    · rw [if_pos c3] at hf
      refine lv_iload hx hb dX9_boxes_76 (lv_at hl 0 rfl) ?_
      refine lv_bipush (v := -4) hx hb dX9_boxes_78 (by decide) ?_
      refine lv_icmp_ne (tgt := 91) hx hb dX9_boxes_80 (by decide) (fun c4 => ?_) (fun c4 => ?_)
      · rw [if_neg c4] at hf
        refine lv_iload_n hx hb dX9_boxes_91 rfl (lv_at hl 3 rfl) ?_
        refine lv_bipush (v := 12) hx hb dX9_boxes_92 (by decide) ?_
        refine lv_icmp_ne (tgt := 113) hx hb dX9_boxes_94 (by decide) (fun c5 => ?_) (fun c5 => ?_)
        · skip
          refine lv_iload_n hx hb dX9_boxes_113 rfl (lv_at hl 3 rfl) ?_
          refine lv_bipush (v := 13) hx hb dX9_boxes_114 (by decide) ?_
          refine lv_icmp_ne (tgt := 144) hx hb dX9_boxes_116 (by decide) (fun c6 => ?_) (fun c6 => ?_)
          · skip
            refine lv_iload_n hx hb dX9_boxes_144 rfl (lv_at hl 3 rfl) ?_
            refine lv_bipush (v := 14) hx hb dX9_boxes_145 (by decide) ?_
            refine lv_icmp_ne (tgt := 165) hx hb dX9_boxes_147 (by decide) (fun c7 => ?_) (fun c7 => ?_)
            · exfalso; have := q_ne (b := 13) (by decide) c1; have := q_eq (b := 14) (by decide) c3; have := q_ne (b := 14) (by decide) c7; omega
            · skip
              refine lv_aload_n hx hb dX9_boxes_150 rfl (lv_at hl 1 rfl) ?_
              refine g_9_30 X hK hW flRX9_95 dX9_boxes_151 ?_
              refine lv_iload_n hx hb dX9_boxes_154 rfl (lv_at hl 4 rfl) ?_
              refine lv_aload_n hx hb dX9_boxes_155 rfl (lv_at hl 1 rfl) ?_
              refine lv_iload hx hb dX9_boxes_156 (lv_at hl 0 rfl) ?_
              obtain ⟨r9, N10, h8, hf⟩ := ob2_some hf
              refine k_yX9_weighs X hK hZ hW hS hl.1 h8 mlRX9_139 ⟨Nat.le_of_ble_eq_true rfl, Nat.le_of_ble_eq_true rfl⟩ ⟨Nat.le_of_ble_eq_true rfl, Nat.le_of_ble_eq_true rfl⟩ (Nat.le_of_ble_eq_true rfl) dX9_boxes_158 (fun H locs hW hS => ?_)
              obtain ⟨b11, hf⟩ := gd_some hf
              obtain ⟨N12, hN12, hf⟩ := lt1_some hf
              refine as_49 X hK hW hS b11 hN12 dX9_boxes_161 (fun H locs hW hS => ?_)
              refine lv_goto (tgt := 172) hx hb dX9_boxes_162 (by decide) ?_
              obtain rfl := sp1 hf
              exact e_v ⟨hx, hb, hr, hlk⟩ hW hS dX9_boxes_172
          · exfalso; have := q_ne (b := 13) (by decide) c1; have := q_eq (b := 14) (by decide) c3; have := q_eq (b := 13) (by decide) c6; omega
        · exfalso; have := q_ne (b := 13) (by decide) c1; have := q_eq (b := 14) (by decide) c3; have := q_eq (b := 12) (by decide) c5; omega
      · rw [if_pos c4] at hf
        refine lv_aload_n hx hb dX9_boxes_83 rfl (lv_at hl 1 rfl) ?_
        refine lv_iconst (v := 1) hx hb dX9_boxes_84 (by decide) ?_
        obtain ⟨N14, h13, hf⟩ := ob1_some hf
        refine k_yX9_bad X hK hZ hW hS hl.1 h13 mlRX9_245 ⟨Nat.le_of_ble_eq_true rfl, Nat.le_of_ble_eq_true rfl⟩ ⟨Nat.le_of_ble_eq_true rfl, Nat.le_of_ble_eq_true rfl⟩ (Nat.le_of_ble_eq_true rfl) dX9_boxes_85 (fun H locs hW hS => ?_)
        refine lv_goto (tgt := 172) hx hb dX9_boxes_88 (by decide) ?_
        obtain rfl := sp1 hf
        exact e_v ⟨hx, hb, hr, hlk⟩ hW hS dX9_boxes_172
    · rw [if_neg c3] at hf
      refine lv_iload hx hb dX9_boxes_35 (lv_at hl 0 rfl) ?_
      refine lv_bipush (v := -4) hx hb dX9_boxes_37 (by decide) ?_
      refine lv_icmp_eq (tgt := 76) hx hb dX9_boxes_39 (by decide) (fun c15 => ?_) (fun c15 => ?_)
      · rw [if_pos c15] at hf
        refine lv_iload hx hb dX9_boxes_76 (lv_at hl 0 rfl) ?_
        refine lv_bipush (v := -4) hx hb dX9_boxes_78 (by decide) ?_
        refine lv_icmp_ne (tgt := 91) hx hb dX9_boxes_80 (by decide) (fun c16 => ?_) (fun c16 => ?_)
        · exfalso; have := q_eq (b := -4) (by decide) c15; have := q_ne (b := -4) (by decide) c16; omega
        · skip
          refine lv_aload_n hx hb dX9_boxes_83 rfl (lv_at hl 1 rfl) ?_
          refine lv_iconst (v := 1) hx hb dX9_boxes_84 (by decide) ?_
          obtain ⟨N18, h17, hf⟩ := ob1_some hf
          refine k_yX9_bad X hK hZ hW hS hl.1 h17 mlRX9_245 ⟨Nat.le_of_ble_eq_true rfl, Nat.le_of_ble_eq_true rfl⟩ ⟨Nat.le_of_ble_eq_true rfl, Nat.le_of_ble_eq_true rfl⟩ (Nat.le_of_ble_eq_true rfl) dX9_boxes_85 (fun H locs hW hS => ?_)
          refine lv_goto (tgt := 172) hx hb dX9_boxes_88 (by decide) ?_
          obtain rfl := sp1 hf
          exact e_v ⟨hx, hb, hr, hlk⟩ hW hS dX9_boxes_172
      · rw [if_neg c15] at hf
        refine lv_aload_n hx hb dX9_boxes_42 rfl (lv_at hl 1 rfl) ?_
        refine lv_iload hx hb dX9_boxes_43 (lv_at hl 0 rfl) ?_
        obtain ⟨r20, h19, hf⟩ := ob1_some hf
        refine k_yX9_isBox X hK hZ hW hS hl.1 h19 mlRX9_126 ⟨Nat.le_of_ble_eq_true rfl, Nat.le_of_ble_eq_true rfl⟩ ⟨Nat.le_of_ble_eq_true rfl, Nat.le_of_ble_eq_true rfl⟩ (Nat.le_of_ble_eq_true rfl) dX9_boxes_45 (fun H locs hW hS => ?_)
        refine lv_if_eq (tgt := 68) hx hb dX9_boxes_48 (by decide) (fun c21 => ?_) (fun c21 => ?_)
        · rw [if_pos c21] at hf
          refine lv_aload_n hx hb dX9_boxes_68 rfl (lv_at hl 1 rfl) ?_
          refine lv_iconst (v := 3) hx hb dX9_boxes_69 (by decide) ?_
          obtain ⟨N23, h22, hf⟩ := ob1_some hf
          refine k_yX9_bad X hK hZ hW hS hl.1 h22 mlRX9_245 ⟨Nat.le_of_ble_eq_true rfl, Nat.le_of_ble_eq_true rfl⟩ ⟨Nat.le_of_ble_eq_true rfl, Nat.le_of_ble_eq_true rfl⟩ (Nat.le_of_ble_eq_true rfl) dX9_boxes_70 (fun H locs hW hS => ?_)
          refine lv_goto (tgt := 172) hx hb dX9_boxes_73 (by decide) ?_
          obtain rfl := sp1 hf
          exact e_v ⟨hx, hb, hr, hlk⟩ hW hS dX9_boxes_172
        · rw [if_neg c21] at hf
          refine lv_iload_n hx hb dX9_boxes_51 rfl (lv_at hl 3 rfl) ?_
          refine lv_bipush (v := 15) hx hb dX9_boxes_52 (by decide) ?_
          refine lv_icmp_ne (tgt := 76) hx hb dX9_boxes_54 (by decide) (fun c24 => ?_) (fun c24 => ?_)
          · rw [if_neg c24] at hf
            refine lv_iload hx hb dX9_boxes_76 (lv_at hl 0 rfl) ?_
            refine lv_bipush (v := -4) hx hb dX9_boxes_78 (by decide) ?_
            refine lv_icmp_ne (tgt := 91) hx hb dX9_boxes_80 (by decide) (fun c25 => ?_) (fun c25 => ?_)
            · skip
              refine lv_iload_n hx hb dX9_boxes_91 rfl (lv_at hl 3 rfl) ?_
              refine lv_bipush (v := 12) hx hb dX9_boxes_92 (by decide) ?_
              refine lv_icmp_ne (tgt := 113) hx hb dX9_boxes_94 (by decide) (fun c26 => ?_) (fun c26 => ?_)
              · rw [if_neg c26] at hf
                refine lv_iload_n hx hb dX9_boxes_113 rfl (lv_at hl 3 rfl) ?_
                refine lv_bipush (v := 13) hx hb dX9_boxes_114 (by decide) ?_
                refine lv_icmp_ne (tgt := 144) hx hb dX9_boxes_116 (by decide) (fun c27 => ?_) (fun c27 => ?_)
                · skip
                  refine lv_iload_n hx hb dX9_boxes_144 rfl (lv_at hl 3 rfl) ?_
                  refine lv_bipush (v := 14) hx hb dX9_boxes_145 (by decide) ?_
                  refine lv_icmp_ne (tgt := 165) hx hb dX9_boxes_147 (by decide) (fun c28 => ?_) (fun c28 => ?_)
                  · skip
                    refine lv_aload_n hx hb dX9_boxes_165 rfl (lv_at hl 1 rfl) ?_
                    refine g_9_30 X hK hW flRX9_95 dX9_boxes_166 ?_
                    refine lv_iload_n hx hb dX9_boxes_169 rfl (lv_at hl 4 rfl) ?_
                    refine lv_iconst (v := 5) hx hb dX9_boxes_170 (by decide) ?_
                    obtain ⟨b29, hf⟩ := gd_some hf
                    obtain ⟨N30, hN30, hf⟩ := lt1_some hf
                    refine as_49 X hK hW hS b29 hN30 dX9_boxes_171 (fun H locs hW hS => ?_)
                    obtain rfl := sp1 hf
                    exact e_v ⟨hx, hb, hr, hlk⟩ hW hS dX9_boxes_172
                  · exfalso; have := q_ne (b := 13) (by decide) c1; have := q_ne (b := 14) (by decide) c3; have := q_ne (b := 15) (by decide) c24; have := q_ne (b := 12) (by decide) c26; have := q_eq (b := 14) (by decide) c28; omega
                · exfalso; have := q_ne (b := 13) (by decide) c1; have := q_ne (b := 14) (by decide) c3; have := q_ne (b := 15) (by decide) c24; have := q_ne (b := 12) (by decide) c26; have := q_eq (b := 13) (by decide) c27; omega
              · rw [if_pos c26] at hf
                refine lv_aload_n hx hb dX9_boxes_97 rfl (lv_at hl 1 rfl) ?_
                refine g_9_30 X hK hW flRX9_95 dX9_boxes_98 ?_
                refine lv_iload_n hx hb dX9_boxes_101 rfl (lv_at hl 4 rfl) ?_
                refine lv_aload_n hx hb dX9_boxes_102 rfl (lv_at hl 1 rfl) ?_
                refine g_9_2 X hK hW flRX9_13 dX9_boxes_103 ?_
                refine lv_iload hx hb dX9_boxes_106 (lv_at hl 0 rfl) ?_
                obtain ⟨b31, hf⟩ := gd_some hf
                refine al_22 X hK hW b31 dX9_boxes_108 ?_
                obtain ⟨b32, hf⟩ := gd_some hf
                obtain ⟨N33, hN33, hf⟩ := lt1_some hf
                refine as_49 X hK hW hS b32 hN33 dX9_boxes_109 (fun H locs hW hS => ?_)
                refine lv_goto (tgt := 172) hx hb dX9_boxes_110 (by decide) ?_
                obtain rfl := sp1 hf
                exact e_v ⟨hx, hb, hr, hlk⟩ hW hS dX9_boxes_172
            · exfalso; have := q_ne (b := -4) (by decide) c15; have := q_eq (b := -4) (by decide) c25; omega
          · rw [if_pos c24] at hf
            refine lv_aload_n hx hb dX9_boxes_57 rfl (lv_at hl 1 rfl) ?_
            refine g_9_1 X hK hW flRX9_7 dX9_boxes_58 ?_
            refine lv_iload hx hb dX9_boxes_61 (lv_at hl 0 rfl) ?_
            obtain ⟨b34, hf⟩ := gd_some hf
            refine al_21 X hK hW b34 dX9_boxes_63 ?_
            refine lv_iconst (v := 2) hx hb dX9_boxes_64 (by decide) ?_
            refine lv_icmp_ge (tgt := 76) hx hb dX9_boxes_65 (by decide) (fun c35 => ?_) (fun c35 => ?_)
            · rw [if_pos c35] at hf
              refine lv_iload hx hb dX9_boxes_76 (lv_at hl 0 rfl) ?_
              refine lv_bipush (v := -4) hx hb dX9_boxes_78 (by decide) ?_
              refine lv_icmp_ne (tgt := 91) hx hb dX9_boxes_80 (by decide) (fun c36 => ?_) (fun c36 => ?_)
              · skip
                refine lv_iload_n hx hb dX9_boxes_91 rfl (lv_at hl 3 rfl) ?_
                refine lv_bipush (v := 12) hx hb dX9_boxes_92 (by decide) ?_
                refine lv_icmp_ne (tgt := 113) hx hb dX9_boxes_94 (by decide) (fun c37 => ?_) (fun c37 => ?_)
                · skip
                  refine lv_iload_n hx hb dX9_boxes_113 rfl (lv_at hl 3 rfl) ?_
                  refine lv_bipush (v := 13) hx hb dX9_boxes_114 (by decide) ?_
                  refine lv_icmp_ne (tgt := 144) hx hb dX9_boxes_116 (by decide) (fun c38 => ?_) (fun c38 => ?_)
                  · skip
                    refine lv_iload_n hx hb dX9_boxes_144 rfl (lv_at hl 3 rfl) ?_
                    refine lv_bipush (v := 14) hx hb dX9_boxes_145 (by decide) ?_
                    refine lv_icmp_ne (tgt := 165) hx hb dX9_boxes_147 (by decide) (fun c39 => ?_) (fun c39 => ?_)
                    · skip
                      refine lv_aload_n hx hb dX9_boxes_165 rfl (lv_at hl 1 rfl) ?_
                      refine g_9_30 X hK hW flRX9_95 dX9_boxes_166 ?_
                      refine lv_iload_n hx hb dX9_boxes_169 rfl (lv_at hl 4 rfl) ?_
                      refine lv_iconst (v := 5) hx hb dX9_boxes_170 (by decide) ?_
                      obtain ⟨b40, hf⟩ := gd_some hf
                      obtain ⟨N41, hN41, hf⟩ := lt1_some hf
                      refine as_49 X hK hW hS b40 hN41 dX9_boxes_171 (fun H locs hW hS => ?_)
                      obtain rfl := sp1 hf
                      exact e_v ⟨hx, hb, hr, hlk⟩ hW hS dX9_boxes_172
                    · exfalso; have := q_ne (b := 13) (by decide) c1; have := q_ne (b := 14) (by decide) c3; have := q_eq (b := 15) (by decide) c24; have := q_eq (b := 14) (by decide) c39; omega
                  · exfalso; have := q_ne (b := 13) (by decide) c1; have := q_ne (b := 14) (by decide) c3; have := q_eq (b := 15) (by decide) c24; have := q_eq (b := 13) (by decide) c38; omega
                · exfalso; have := q_ne (b := 13) (by decide) c1; have := q_ne (b := 14) (by decide) c3; have := q_eq (b := 15) (by decide) c24; have := q_eq (b := 12) (by decide) c37; omega
              · exfalso; have := q_ne (b := -4) (by decide) c15; have := q_eq (b := -4) (by decide) c36; omega
            · rw [if_neg c35] at hf
              refine lv_aload_n hx hb dX9_boxes_68 rfl (lv_at hl 1 rfl) ?_
              refine lv_iconst (v := 3) hx hb dX9_boxes_69 (by decide) ?_
              obtain ⟨N43, h42, hf⟩ := ob1_some hf
              refine k_yX9_bad X hK hZ hW hS hl.1 h42 mlRX9_245 ⟨Nat.le_of_ble_eq_true rfl, Nat.le_of_ble_eq_true rfl⟩ ⟨Nat.le_of_ble_eq_true rfl, Nat.le_of_ble_eq_true rfl⟩ (Nat.le_of_ble_eq_true rfl) dX9_boxes_70 (fun H locs hW hS => ?_)
              refine lv_goto (tgt := 172) hx hb dX9_boxes_73 (by decide) ?_
              obtain rfl := sp1 hf
              exact e_v ⟨hx, hb, hr, hlk⟩ hW hS dX9_boxes_172
  · rw [if_pos c1] at hf
    refine lv_aload_n hx hb dX9_boxes_6 rfl (lv_at hl 0 rfl) ?_
    refine g_9_31 X hK hW flRX9_98 dX9_boxes_7 ?_
    refine lv_iload_n hx hb dX9_boxes_10 rfl (lv_at hl 3 rfl) ?_
    obtain ⟨b44, hf⟩ := gd_some hf
    refine al_50 X hK hW b44 dX9_boxes_11 ?_
    refine lv_goto (tgt := 27) hx hb dX9_boxes_12 (by decide) ?_
    refine lv_istore (lv' := [(5, .int (N 50 0 x3.toNatClampNeg)), (0, .ref (ad 20 0)), (1, .int x1), (2, .int x2), (3, .int x3), (4, .int x4)]) hx hb dX9_boxes_27 hl (by decide) rfl (fun ls hl => ?_)
    refine lv_iload_n hx hb dX9_boxes_29 rfl (lv_at hl 3 rfl) ?_
    refine lv_bipush (v := 14) hx hb dX9_boxes_30 (by decide) ?_
    refine lv_icmp_eq (tgt := 76) hx hb dX9_boxes_32 (by decide) (fun c45 => ?_) (fun c45 => ?_)
    · exfalso; have := q_eq (b := 13) (by decide) c1; have := q_eq (b := 14) (by decide) c45; omega
    · skip
      refine lv_iload hx hb dX9_boxes_35 (lv_at hl 0 rfl) ?_
      refine lv_bipush (v := -4) hx hb dX9_boxes_37 (by decide) ?_
      refine lv_icmp_eq (tgt := 76) hx hb dX9_boxes_39 (by decide) (fun c46 => ?_) (fun c46 => ?_)
      · rw [if_pos c46] at hf
        refine lv_iload hx hb dX9_boxes_76 (lv_at hl 0 rfl) ?_
        refine lv_bipush (v := -4) hx hb dX9_boxes_78 (by decide) ?_
        refine lv_icmp_ne (tgt := 91) hx hb dX9_boxes_80 (by decide) (fun c47 => ?_) (fun c47 => ?_)
        · exfalso; have := q_eq (b := -4) (by decide) c46; have := q_ne (b := -4) (by decide) c47; omega
        · skip
          refine lv_aload_n hx hb dX9_boxes_83 rfl (lv_at hl 1 rfl) ?_
          refine lv_iconst (v := 1) hx hb dX9_boxes_84 (by decide) ?_
          obtain ⟨N49, h48, hf⟩ := ob1_some hf
          refine k_yX9_bad X hK hZ hW hS hl.1 h48 mlRX9_245 ⟨Nat.le_of_ble_eq_true rfl, Nat.le_of_ble_eq_true rfl⟩ ⟨Nat.le_of_ble_eq_true rfl, Nat.le_of_ble_eq_true rfl⟩ (Nat.le_of_ble_eq_true rfl) dX9_boxes_85 (fun H locs hW hS => ?_)
          refine lv_goto (tgt := 172) hx hb dX9_boxes_88 (by decide) ?_
          obtain rfl := sp1 hf
          exact e_v ⟨hx, hb, hr, hlk⟩ hW hS dX9_boxes_172
      · rw [if_neg c46] at hf
        refine lv_aload_n hx hb dX9_boxes_42 rfl (lv_at hl 1 rfl) ?_
        refine lv_iload hx hb dX9_boxes_43 (lv_at hl 0 rfl) ?_
        obtain ⟨r51, h50, hf⟩ := ob1_some hf
        refine k_yX9_isBox X hK hZ hW hS hl.1 h50 mlRX9_126 ⟨Nat.le_of_ble_eq_true rfl, Nat.le_of_ble_eq_true rfl⟩ ⟨Nat.le_of_ble_eq_true rfl, Nat.le_of_ble_eq_true rfl⟩ (Nat.le_of_ble_eq_true rfl) dX9_boxes_45 (fun H locs hW hS => ?_)
        refine lv_if_eq (tgt := 68) hx hb dX9_boxes_48 (by decide) (fun c52 => ?_) (fun c52 => ?_)
        · rw [if_pos c52] at hf
          refine lv_aload_n hx hb dX9_boxes_68 rfl (lv_at hl 1 rfl) ?_
          refine lv_iconst (v := 3) hx hb dX9_boxes_69 (by decide) ?_
          obtain ⟨N54, h53, hf⟩ := ob1_some hf
          refine k_yX9_bad X hK hZ hW hS hl.1 h53 mlRX9_245 ⟨Nat.le_of_ble_eq_true rfl, Nat.le_of_ble_eq_true rfl⟩ ⟨Nat.le_of_ble_eq_true rfl, Nat.le_of_ble_eq_true rfl⟩ (Nat.le_of_ble_eq_true rfl) dX9_boxes_70 (fun H locs hW hS => ?_)
          refine lv_goto (tgt := 172) hx hb dX9_boxes_73 (by decide) ?_
          obtain rfl := sp1 hf
          exact e_v ⟨hx, hb, hr, hlk⟩ hW hS dX9_boxes_172
        · rw [if_neg c52] at hf
          refine lv_iload_n hx hb dX9_boxes_51 rfl (lv_at hl 3 rfl) ?_
          refine lv_bipush (v := 15) hx hb dX9_boxes_52 (by decide) ?_
          refine lv_icmp_ne (tgt := 76) hx hb dX9_boxes_54 (by decide) (fun c55 => ?_) (fun c55 => ?_)
          · skip
            refine lv_iload hx hb dX9_boxes_76 (lv_at hl 0 rfl) ?_
            refine lv_bipush (v := -4) hx hb dX9_boxes_78 (by decide) ?_
            refine lv_icmp_ne (tgt := 91) hx hb dX9_boxes_80 (by decide) (fun c56 => ?_) (fun c56 => ?_)
            · skip
              refine lv_iload_n hx hb dX9_boxes_91 rfl (lv_at hl 3 rfl) ?_
              refine lv_bipush (v := 12) hx hb dX9_boxes_92 (by decide) ?_
              refine lv_icmp_ne (tgt := 113) hx hb dX9_boxes_94 (by decide) (fun c57 => ?_) (fun c57 => ?_)
              · skip
                refine lv_iload_n hx hb dX9_boxes_113 rfl (lv_at hl 3 rfl) ?_
                refine lv_bipush (v := 13) hx hb dX9_boxes_114 (by decide) ?_
                refine lv_icmp_ne (tgt := 144) hx hb dX9_boxes_116 (by decide) (fun c58 => ?_) (fun c58 => ?_)
                · exfalso; have := q_eq (b := 13) (by decide) c1; have := q_ne (b := 13) (by decide) c58; omega
                · skip
                  refine lv_aload_n hx hb dX9_boxes_119 rfl (lv_at hl 1 rfl) ?_
                  refine g_9_2 X hK hW flRX9_13 dX9_boxes_120 ?_
                  refine lv_iload hx hb dX9_boxes_123 (lv_at hl 0 rfl) ?_
                  refine lv_dup2_11 hx hb dX9_boxes_125 rfl rfl ?_
                  obtain ⟨b59, hf⟩ := gd_some hf
                  refine al_22 X hK hW b59 dX9_boxes_126 ?_
                  refine lv_aload_n hx hb dX9_boxes_127 rfl (lv_at hl 1 rfl) ?_
                  refine g_9_30 X hK hW flRX9_95 dX9_boxes_128 ?_
                  refine lv_bipush (v := 6) hx hb dX9_boxes_131 (by decide) ?_
                  refine lv_iload_n hx hb dX9_boxes_133 rfl (lv_at hl 2 rfl) ?_
                  refine lv_imul hx hb dX9_boxes_134 ?_
                  refine lv_iload hx hb dX9_boxes_135 (lv_at hl 5 rfl) ?_
                  refine lv_iadd hx hb dX9_boxes_137 ?_
                  obtain ⟨b60, hf⟩ := gd_some hf
                  refine al_49 X hK hW b60 dX9_boxes_138 ?_
                  refine lv_iadd hx hb dX9_boxes_139 ?_
                  obtain ⟨N61, hN61, hf⟩ := lt1_some hf
                  refine as_22 X hK hW hS b59 hN61 dX9_boxes_140 (fun H locs hW hS => ?_)
                  refine lv_goto (tgt := 172) hx hb dX9_boxes_141 (by decide) ?_
                  obtain rfl := sp1 hf
                  exact e_v ⟨hx, hb, hr, hlk⟩ hW hS dX9_boxes_172
              · exfalso; have := q_eq (b := 13) (by decide) c1; have := q_eq (b := 12) (by decide) c57; omega
            · exfalso; have := q_ne (b := -4) (by decide) c46; have := q_eq (b := -4) (by decide) c56; omega
          · exfalso; have := q_eq (b := 13) (by decide) c1; have := q_eq (b := 15) (by decide) c55; omega
set_option maxRecDepth 100000 in
set_option maxHeartbeats 4000000 in
theorem k_yX9_boxes {p : Program} {l : Launch} {e : Env} {R : Room} {s : State} {m : MethodId} {args : Array Value} {below : List Frame} {meth : Method} {c : Code} {H : Heap} {locs : List Loc} {cells slots : Nat} {Q : State → Prop} {cc : ByteArray} {pc nL index : Nat} {ret : Option FieldType} {own : String} {ls : Array Slot} {rest : List Value} {E : Lay} {ad : Nat → Nat → Nat} {M N : Mem} (X : CX p s m args meth c cc nL ret own) (hK : KK E s) (hZ : ZZ E s) (hW : WD E ad (M, N) H) (hS : va_S (ow E) s.heap H locs) (hsz : ls.size = nL) {x1 : Int32} {x2 : Int32} {x3 : Int32} {x4 : Int32} {Nr : Mem} (hf : f_yX9_boxes N x1 x2 x3 x4 = some Nr) (hn : Cond.methodLink own index yX9_boxes ∈ TB) (hR : 2 + 1 ≤ R.frames ∧ 8 + (6 + 11) + 45 ≤ R.locals) (hC : cells ≤ R.cells ∧ slots ≤ R.slots) (h8 : (rest.map fun v => v.category).sum ≤ 8) (hdg : decode cc pc = .ok (.invokevirtual index, 3)) (kk : ∀ (H1 : Heap) (locs1 : List Loc), WD E ad (M, Nr) H1 → va_S (ow E) s.heap H1 locs1 → W p l e R s m args below meth c H1 locs1 cells slots Q (F0 m (pc + 3) ls (rest))) : W p l e R s m args below meth c H locs cells slots Q (F0 m pc ls (.int x4 :: .int x3 :: .int x2 :: .int x1 :: .ref (ad 20 0) :: rest)) := by
  refine va_callv (va_runV (C := RX9) (As := [.int x1, .int x2, .int x3, .int x4]) (rest := rest) ⟨X.1, X.2.1, X.2.2.1, X.2.2.2.1, X.2.2.2.2.1⟩ (c_yX9_boxes l E ad M N x1 x2 x3 x4 Nr hf) (cwV 4 X.2.2.2.2.1 (gV hn im_yX9_boxes se_yX9_boxes iniRX9 cd_yX9_boxes) rfl rfl rfl (by decide +kernel) hR) ⟨fun a U g mk q => ⟨q.1, q.2.calling⟩, va_recv hK.1 (hW.at (c := 20) (i := 0) Nat.zero_lt_one rfl) (ci := 9) (q0 := 0) rfl rfl, fun U hU hw => ⟨rfl, PB.at hW hK hZ hS hU hw⟩⟩ rfl rfl hsz rfl (lv_room h8) hdg hC) hS (fun _ _ h => h) (fun _ h => h) (fun u t H1 locs1 ht hvm hw hB hz1 hk1 hS1 => ?_)
  subst hw
  rw [ht] at hB
  exact kk H1 locs1 hB hS1
