def f_yX1_interrupt (M : Mem) (i1 : Nat) : Option Mem := (if (M 6 i1 0) = 2 then lt1 (mp M 6 i1 4 1) (fun M2 => (some M2)) else (if (M 6 i1 0) = 3 then lt1 (mp M 6 i1 4 1) (fun M4 => (some M4)) else (if (M 6 i1 0) = 4 then lt1 (mp M 6 i1 5 1) (fun M6 => ob1 (f_yX4_at M6 (M6 6 i1 11)) (fun r8 => om r8 (ob1 (f_yX1_getIn M6 i1 none (M6 6 i1 13)) (fun M11 => (some M11))) (fun j9 => gd (j9 < (M6 60 0 1).toNatClampNeg) (ob1 (f_yX1_getIn M6 i1 (some j9) (M6 6 i1 13)) (fun M14 => (some M14)))))) else (if (M 6 i1 0) = 5 then lt1 (mp M 6 i1 5 1) (fun M16 => ob1 (f_yX5_become M16 i1 2 (-4) (-4)) (fun M18 => (some M18))) else (if (M 6 i1 0) = 6 then lt1 (mp M 6 i1 5 1) (fun M20 => ob1 (f_yX5_become M20 i1 2 (-4) (-4)) (fun M22 => (some M22))) else (some M))))))
set_option maxRecDepth 100000 in
set_option maxHeartbeats 4000000 in
theorem c_yX1_interrupt (l : Launch) (E : Lay) (ad : Nat → Nat → Nat) (M N : Mem) (i1 : Nat) (w1 : i1 < 6) (Mr : Mem) (hf : f_yX1_interrupt M i1 = some Mr) : Met l yX1_interrupt (Cond.code yX1_interrupt cX1_interrupt 2 none :: TB) (rmm 2 46) (va_Pc [.ref (ad 2 0), .ref (ad 6 i1)] (PB E ad (M, N))) (Qv E ad (Mr, N)) 0 0 (ow E) := by
  refine Met.ofW (cc := cX1_interrupt) (maxL := 2) (ret := none) (by decide) rfl ?_
  intro p e s m args below meth c s₁ B hml hv
  obtain ⟨rfl, hW, hK, hZ⟩ := hv
  have hT : ∀ w ∈ TB, w.before _ s = true := fun w h => atoms_spec (ws := (Cond.code yX1_interrupt cX1_interrupt 2 none :: TB)) B.pre w (List.mem_cons_of_mem _ h)
  have X : CX p s m _ meth c cX1_interrupt 2 none RX1 := ⟨B.exec, B.bytes, hml, findClass_of_methodNamed B.named, hT, B.returns, B.notSynchronized⟩
  obtain ⟨hx, hb, hml, hown, hT, hr, hlk⟩ := id X
  have hS : va_S (ow E) s.heap s.heap [] := va_S.rf
  have hl := lv_entry ([.ref (ad 2 0), .ref (ad 6 i1)]) (n := 2) (Nat.le_of_ble_eq_true rfl)
  rw [lg_entry_eq]
  generalize (lg_sl ([.ref (ad 2 0), .ref (ad 6 i1)]) ++ List.replicate (2 - (lg_sl ([.ref (ad 2 0), .ref (ad 6 i1)])).length) Slot.unset).toArray = ls at hl ⊢
  have hl : lv_has ls 2 [(0, .ref (ad 2 0)), (1, .ref (ad 6 i1))] := hl
  unfold f_yX1_interrupt at hf
  refine lv_aload_n hx hb dX1_interrupt_0 rfl (lv_at hl 1 rfl) ?_
  refine g_5_4 X hK hW w1 flRX1_32 dX1_interrupt_1 ?_
  by_cases c1 : (M 6 i1 0) = 2
  · rw [if_pos c1] at hf
    refine lv_tableIn (tgt := 40) hx hb dX1_interrupt_4 (by rw [c1]; decide) (by rw [c1]; decide) (by rw [c1]; rfl) (by decide) ?_
    refine lv_aload_n hx hb dX1_interrupt_40 rfl (lv_at hl 1 rfl) ?_
    refine lv_iconst (v := 1) hx hb dX1_interrupt_41 (by decide) ?_
    obtain ⟨M2, hM2, hf⟩ := lt1_some hf
    refine p_5_8 X hK hW hS w1 rfl rfl hM2 flRX1_115 dX1_interrupt_42 (fun H locs hW hS => ?_)
    refine lv_goto (tgt := 93) hx hb dX1_interrupt_45 (by decide) ?_
    obtain rfl := sp1 hf
    exact e_v ⟨hx, hb, hr, hlk⟩ hW hS dX1_interrupt_93
  rw [if_neg c1] at hf
  by_cases c3 : (M 6 i1 0) = 3
  · rw [if_pos c3] at hf
    refine lv_tableIn (tgt := 40) hx hb dX1_interrupt_4 (by rw [c3]; decide) (by rw [c3]; decide) (by rw [c3]; rfl) (by decide) ?_
    refine lv_aload_n hx hb dX1_interrupt_40 rfl (lv_at hl 1 rfl) ?_
    refine lv_iconst (v := 1) hx hb dX1_interrupt_41 (by decide) ?_
    obtain ⟨M4, hM4, hf⟩ := lt1_some hf
    refine p_5_8 X hK hW hS w1 rfl rfl hM4 flRX1_115 dX1_interrupt_42 (fun H locs hW hS => ?_)
    refine lv_goto (tgt := 93) hx hb dX1_interrupt_45 (by decide) ?_
    obtain rfl := sp1 hf
    exact e_v ⟨hx, hb, hr, hlk⟩ hW hS dX1_interrupt_93
  rw [if_neg c3] at hf
  by_cases c5 : (M 6 i1 0) = 4
  · rw [if_pos c5] at hf
    refine lv_tableIn (tgt := 48) hx hb dX1_interrupt_4 (by rw [c5]; decide) (by rw [c5]; decide) (by rw [c5]; rfl) (by decide) ?_
    refine lv_aload_n hx hb dX1_interrupt_48 rfl (lv_at hl 1 rfl) ?_
    refine lv_iconst (v := 1) hx hb dX1_interrupt_49 (by decide) ?_
    obtain ⟨M6, hM6, hf⟩ := lt1_some hf
    refine p_5_9 X hK hW hS w1 rfl rfl hM6 flRX1_119 dX1_interrupt_50 (fun H locs hW hS => ?_)
    refine lv_aload_n hx hb dX1_interrupt_53 rfl (lv_at hl 0 rfl) ?_
    refine lv_aload_n hx hb dX1_interrupt_54 rfl (lv_at hl 1 rfl) ?_
    refine lv_aload_n hx hb dX1_interrupt_55 rfl (lv_at hl 0 rfl) ?_
    refine g_1_0 X hK hW flRX1_17 dX1_interrupt_56 ?_
    refine lv_aload_n hx hb dX1_interrupt_59 rfl (lv_at hl 1 rfl) ?_
    refine g_5_15 X hK hW w1 flRX1_36 dX1_interrupt_60 ?_
    obtain ⟨r8, h7, hf⟩ := ob1_some hf
    rcases r8 with _ | j9
    · rw [om_n] at hf
      refine k_yX4_atn X hK hZ hW hS hl.1 h7 mlRX1_52 ⟨Nat.le_of_ble_eq_true rfl, Nat.le_of_ble_eq_true rfl⟩ ⟨Nat.le_of_ble_eq_true rfl, Nat.le_of_ble_eq_true rfl⟩ (Nat.le_of_ble_eq_true rfl) dX1_interrupt_63 (fun H locs hW hS => ?_)
      refine lv_aload_n hx hb dX1_interrupt_66 rfl (lv_at hl 1 rfl) ?_
      refine g_5_17 X hK hW w1 flRX1_58 dX1_interrupt_67 ?_
      obtain ⟨M11, h10, hf⟩ := ob1_some hf
      refine k_yX1_getIn X hK hZ hW hS hl.1 w1 none trivial h10 mlRX1_61 ⟨Nat.le_of_ble_eq_true rfl, Nat.le_of_ble_eq_true rfl⟩ ⟨Nat.le_of_ble_eq_true rfl, Nat.le_of_ble_eq_true rfl⟩ (Nat.le_of_ble_eq_true rfl) dX1_interrupt_70 (fun H locs hW hS => ?_)
      refine lv_goto (tgt := 93) hx hb dX1_interrupt_73 (by decide) ?_
      obtain rfl := sp1 hf
      exact e_v ⟨hx, hb, hr, hlk⟩ hW hS dX1_interrupt_93
    · rw [om_s] at hf
      refine k_yX4_ats X hK hZ hW hS hl.1 h7 mlRX1_52 ⟨Nat.le_of_ble_eq_true rfl, Nat.le_of_ble_eq_true rfl⟩ ⟨Nat.le_of_ble_eq_true rfl, Nat.le_of_ble_eq_true rfl⟩ (Nat.le_of_ble_eq_true rfl) dX1_interrupt_63 (fun H locs hW hS => ?_)
      refine lv_aload_n hx hb dX1_interrupt_66 rfl (lv_at hl 1 rfl) ?_
      refine g_5_17 X hK hW w1 flRX1_58 dX1_interrupt_67 ?_
      obtain ⟨v12, hf⟩ := gd_some hf
      obtain ⟨M14, h13, hf⟩ := ob1_some hf
      refine k_yX1_getIn X hK hZ hW hS hl.1 w1 (some j9) v12 h13 mlRX1_61 ⟨Nat.le_of_ble_eq_true rfl, Nat.le_of_ble_eq_true rfl⟩ ⟨Nat.le_of_ble_eq_true rfl, Nat.le_of_ble_eq_true rfl⟩ (Nat.le_of_ble_eq_true rfl) dX1_interrupt_70 (fun H locs hW hS => ?_)
      refine lv_goto (tgt := 93) hx hb dX1_interrupt_73 (by decide) ?_
      obtain rfl := sp1 hf
      exact e_v ⟨hx, hb, hr, hlk⟩ hW hS dX1_interrupt_93
  rw [if_neg c5] at hf
  by_cases c15 : (M 6 i1 0) = 5
  · rw [if_pos c15] at hf
    refine lv_tableIn (tgt := 76) hx hb dX1_interrupt_4 (by rw [c15]; decide) (by rw [c15]; decide) (by rw [c15]; rfl) (by decide) ?_
    refine lv_aload_n hx hb dX1_interrupt_76 rfl (lv_at hl 1 rfl) ?_
    refine lv_iconst (v := 1) hx hb dX1_interrupt_77 (by decide) ?_
    obtain ⟨M16, hM16, hf⟩ := lt1_some hf
    refine p_5_9 X hK hW hS w1 rfl rfl hM16 flRX1_119 dX1_interrupt_78 (fun H locs hW hS => ?_)
    refine lv_aload_n hx hb dX1_interrupt_81 rfl (lv_at hl 1 rfl) ?_
    refine lv_iconst (v := 2) hx hb dX1_interrupt_82 (by decide) ?_
    refine lv_bipush (v := -4) hx hb dX1_interrupt_83 (by decide) ?_
    refine lv_bipush (v := -4) hx hb dX1_interrupt_85 (by decide) ?_
    obtain ⟨M18, h17, hf⟩ := ob1_some hf
    refine k_yX5_become X hK hZ hW hS hl.1 w1 h17 mlRX1_65 ⟨Nat.le_of_ble_eq_true rfl, Nat.le_of_ble_eq_true rfl⟩ ⟨Nat.le_of_ble_eq_true rfl, Nat.le_of_ble_eq_true rfl⟩ (Nat.le_of_ble_eq_true rfl) dX1_interrupt_87 (fun H locs hW hS => ?_)
    refine lv_goto (tgt := 93) hx hb dX1_interrupt_90 (by decide) ?_
    obtain rfl := sp1 hf
    exact e_v ⟨hx, hb, hr, hlk⟩ hW hS dX1_interrupt_93
  rw [if_neg c15] at hf
  by_cases c19 : (M 6 i1 0) = 6
  · rw [if_pos c19] at hf
    refine lv_tableIn (tgt := 76) hx hb dX1_interrupt_4 (by rw [c19]; decide) (by rw [c19]; decide) (by rw [c19]; rfl) (by decide) ?_
    refine lv_aload_n hx hb dX1_interrupt_76 rfl (lv_at hl 1 rfl) ?_
    refine lv_iconst (v := 1) hx hb dX1_interrupt_77 (by decide) ?_
    obtain ⟨M20, hM20, hf⟩ := lt1_some hf
    refine p_5_9 X hK hW hS w1 rfl rfl hM20 flRX1_119 dX1_interrupt_78 (fun H locs hW hS => ?_)
    refine lv_aload_n hx hb dX1_interrupt_81 rfl (lv_at hl 1 rfl) ?_
    refine lv_iconst (v := 2) hx hb dX1_interrupt_82 (by decide) ?_
    refine lv_bipush (v := -4) hx hb dX1_interrupt_83 (by decide) ?_
    refine lv_bipush (v := -4) hx hb dX1_interrupt_85 (by decide) ?_
    obtain ⟨M22, h21, hf⟩ := ob1_some hf
    refine k_yX5_become X hK hZ hW hS hl.1 w1 h21 mlRX1_65 ⟨Nat.le_of_ble_eq_true rfl, Nat.le_of_ble_eq_true rfl⟩ ⟨Nat.le_of_ble_eq_true rfl, Nat.le_of_ble_eq_true rfl⟩ (Nat.le_of_ble_eq_true rfl) dX1_interrupt_87 (fun H locs hW hS => ?_)
    refine lv_goto (tgt := 93) hx hb dX1_interrupt_90 (by decide) ?_
    obtain rfl := sp1 hf
    exact e_v ⟨hx, hb, hr, hlk⟩ hW hS dX1_interrupt_93
  rw [if_neg c19] at hf
  refine lv_tableOut (tgt := 93) hx hb dX1_interrupt_4 (by have := lv_neT (a := 2) c1 (by decide); have := lv_neT (a := 3) c3 (by decide); have := lv_neT (a := 4) c5 (by decide); have := lv_neT (a := 5) c15 (by decide); have := lv_neT (a := 6) c19 (by decide); omega) (by decide) ?_
  obtain rfl := sp1 hf
  exact e_v ⟨hx, hb, hr, hlk⟩ hW hS dX1_interrupt_93
set_option maxRecDepth 100000 in
set_option maxHeartbeats 4000000 in
theorem k_yX1_interrupt {p : Program} {l : Launch} {e : Env} {R : Room} {s : State} {m : MethodId} {args : Array Value} {below : List Frame} {meth : Method} {c : Code} {H : Heap} {locs : List Loc} {cells slots : Nat} {Q : State → Prop} {cc : ByteArray} {pc nL index : Nat} {ret : Option FieldType} {own : String} {ls : Array Slot} {rest : List Value} {E : Lay} {ad : Nat → Nat → Nat} {M N : Mem} (X : CX p s m args meth c cc nL ret own) (hK : KK E s) (hZ : ZZ E s) (hW : WD E ad (M, N) H) (hS : va_S (ow E) s.heap H locs) (hsz : ls.size = nL) {i1 : Nat} (w1 : i1 < 6) {Mr : Mem} (hf : f_yX1_interrupt M i1 = some Mr) (hn : Cond.methodLink own index yX1_interrupt ∈ TB) (hR : 2 + 1 ≤ R.frames ∧ 8 + (2 + 11) + 46 ≤ R.locals) (hC : cells ≤ R.cells ∧ slots ≤ R.slots) (h8 : (rest.map fun v => v.category).sum ≤ 8) (hdg : decode cc pc = .ok (.invokevirtual index, 3)) (kk : ∀ (H1 : Heap) (locs1 : List Loc), WD E ad (Mr, N) H1 → va_S (ow E) s.heap H1 locs1 → W p l e R s m args below meth c H1 locs1 cells slots Q (F0 m (pc + 3) ls (rest))) : W p l e R s m args below meth c H locs cells slots Q (F0 m pc ls (.ref (ad 6 i1) :: .ref (ad 2 0) :: rest)) := by
  refine va_callv (va_runV (C := RX1) (As := [.ref (ad 6 i1)]) (rest := rest) ⟨X.1, X.2.1, X.2.2.1, X.2.2.2.1, X.2.2.2.2.1⟩ (c_yX1_interrupt l E ad M N i1 w1 Mr hf) (cwV 1 X.2.2.2.2.1 (gV hn im_yX1_interrupt se_yX1_interrupt iniRX1 cd_yX1_interrupt) rfl rfl rfl (by decide +kernel) hR) ⟨fun a U g mk q => ⟨q.1, q.2.calling⟩, va_recv hK.1 (hW.at (c := 2) (i := 0) Nat.zero_lt_one rfl) (ci := 1) (q0 := 0) rfl rfl, fun U hU hw => ⟨rfl, PB.at hW hK hZ hS hU hw⟩⟩ rfl rfl hsz rfl (lv_room h8) hdg hC) hS (fun _ _ h => h) (fun _ h => h) (fun u t H1 locs1 ht hvm hw hB hz1 hk1 hS1 => ?_)
  subst hw
  rw [ht] at hB
  exact kk H1 locs1 hB hS1
def f_yX1_end_L89 : Nat → Mem → Nat → Int32 → Int32 → Option Mem
  | 0, _, _, _, _ => none
  | n + 1, M0, k1, y5, y6 => (if y5 ≤ y6 then (some M0) else gd (¬ (y6 < 0 ∨ 6 ≤ y6.toNatClampNeg)) ((if (M0 6 y6.toNatClampNeg 0) = 6 then (if (M0 6 y6.toNatClampNeg 11) = (nI k1) then ob1 (f_yX5_become M0 y6.toNatClampNeg 2 (-4) (-4)) (fun M12 => (f_yX1_end_L89 n M12 k1 y5 (y6 + 1))) else (f_yX1_end_L89 n M0 k1 y5 (y6 + 1))) else (f_yX1_end_L89 n M0 k1 y5 (y6 + 1)))))
def f_yX1_end_L23 : Nat → Mem → Nat → Int32 → Option Mem
  | 0, _, _, _ => none
  | n + 1, M0, k1, y4 => (if (M0 1 0 0) ≤ y4 then (f_yX1_end_L89 70 M0 k1 6 0) else ob1 (f_yX4_at M0 y4) (fun r14 => om r14 ((f_yX1_end_L23 n M0 k1 (y4 + 1))) (fun j15 => gd (j15 < (M0 60 0 1).toNatClampNeg) ((if (M0 8 j15 2) = (nI k1) then ob1 (f_yX1_vacate M0 j15) (fun M19 => (f_yX1_end_L23 n M19 k1 (y4 + 1))) else (f_yX1_end_L23 n M0 k1 (y4 + 1)))))))
def f_yX1_end (M : Mem) (i1 : Nat) (x2 : Int32) (x3 : Int32) : Option Mem := ob1 (f_yX5_become M i1 7 (-4) (-4)) (fun M2 => lt1 (mp M2 6 i1 9 x2) (fun M3 => lt1 (mp M3 6 i1 10 x3) (fun M4 => (f_yX1_end_L23 70 M4 i1 0))))
set_option maxRecDepth 100000 in
set_option maxHeartbeats 4000000 in
theorem l_yX1_end_89 (l : Launch) (E : Lay) (ad : Nat → Nat → Nat) (N : Mem) {p : Program} {e : Env} {s : State} {m : MethodId} {args : Array Value} {below : List Frame} {meth : Method} {c : Code} (X : CX p s m args meth c cX1_end 8 none RX1) (hK : KK E s) (hZ : ZZ E s) : ∀ (n : Nat) (M0 : Mem) (k1 : Nat) (y5 : Int32) (y6 : Int32) (Mr : Mem) (hf : f_yX1_end_L89 n M0 k1 y5 y6 = some Mr) (w1 : k1 < 6) (H : Heap) (locs : List Loc) (ls : Array Slot), WD E ad (M0, N) H → va_S (ow E) s.heap H locs → lv_has ls 8 [(1, .ref (ad 6 k1)), (4, .ref (ad 10 0)), (5, .int y5), (6, .int y6)] → W p l e (rmm 2 50) s m args below meth c H locs 0 0 (MQ below (Qv E ad (Mr, N)) args s 0 0 (ow E)) (F0 m 89 ls []) := by
  obtain ⟨hx, hb, hml, hown, hT, hr, hlk⟩ := id X
  intro n
  induction n with
  | zero =>
    intro M0 k1 y5 y6 Mr hf
    rw [f_yX1_end_L89] at hf
    cases hf
  | succ n ih =>
    intro M0 k1 y5 y6 Mr hf w1 H locs ls hW hS hl
    rw [f_yX1_end_L89] at hf
    refine lv_iload hx hb dX1_end_89 (lv_at hl 3 rfl) ?_
    refine lv_iload hx hb dX1_end_91 (lv_at hl 2 rfl) ?_
    refine lv_icmp_ge (tgt := 141) hx hb dX1_end_93 (by decide) (fun c6 => ?_) (fun c6 => ?_)
    · rw [if_pos c6] at hf
      obtain rfl := sp1 hf
      exact e_v ⟨hx, hb, hr, hlk⟩ hW hS dX1_end_141
    · rw [if_neg c6] at hf
      refine lv_aload hx hb dX1_end_96 (lv_at hl 1 rfl) ?_
      refine lv_iload hx hb dX1_end_98 (lv_at hl 3 rfl) ?_
      obtain ⟨b7, hf⟩ := gd_some hf
      have v8 : y6.toNatClampNeg < 6 := Nat.not_le.mp fun z => b7 (Or.inr z)
      refine al_10 X hK hW b7 dX1_end_100 ?_
      refine lv_astore (lv' := [(7, .ref (ad 6 y6.toNatClampNeg)), (1, .ref (ad 6 k1)), (4, .ref (ad 10 0)), (5, .int y5), (6, .int y6)]) hx hb dX1_end_101 hl (by decide) rfl (fun ls hl => ?_)
      refine lv_aload hx hb dX1_end_103 (lv_at hl 0 rfl) ?_
      refine g_5_4 X hK hW v8 flRX1_32 dX1_end_105 ?_
      refine lv_bipush (v := 6) hx hb dX1_end_108 (by decide) ?_
      refine lv_icmp_ne (tgt := 135) hx hb dX1_end_110 (by decide) (fun c9 => ?_) (fun c9 => ?_)
      · rw [if_neg c9] at hf
        refine lv_iinc (v := (y6 + 1)) (lv' := [(6, .int (y6 + 1)), (7, .ref (ad 6 y6.toNatClampNeg)), (1, .ref (ad 6 k1)), (4, .ref (ad 10 0)), (5, .int y5)]) hx hb dX1_end_135 hl (k := 4) rfl rfl (by decide) rfl (fun ls hl => ?_)
        refine lv_goto (tgt := 89) hx hb dX1_end_138 (by decide) ?_
        exact ih _ _ _ _ _ hf w1 _ _ _ hW hS (lv_sub hl [2, 3, 4, 0] rfl)
      · rw [if_pos c9] at hf
        refine lv_aload hx hb dX1_end_113 (lv_at hl 0 rfl) ?_
        refine g_5_15 X hK hW v8 flRX1_36 dX1_end_115 ?_
        refine lv_aload_n hx hb dX1_end_118 rfl (lv_at hl 1 rfl) ?_
        refine g_5_0 X hK hW w1 flRX1_86 dX1_end_119 ?_
        refine lv_icmp_ne (tgt := 135) hx hb dX1_end_122 (by decide) (fun c10 => ?_) (fun c10 => ?_)
        · rw [if_neg c10] at hf
          refine lv_iinc (v := (y6 + 1)) (lv' := [(6, .int (y6 + 1)), (7, .ref (ad 6 y6.toNatClampNeg)), (1, .ref (ad 6 k1)), (4, .ref (ad 10 0)), (5, .int y5)]) hx hb dX1_end_135 hl (k := 4) rfl rfl (by decide) rfl (fun ls hl => ?_)
          refine lv_goto (tgt := 89) hx hb dX1_end_138 (by decide) ?_
          exact ih _ _ _ _ _ hf w1 _ _ _ hW hS (lv_sub hl [2, 3, 4, 0] rfl)
        · rw [if_pos c10] at hf
          refine lv_aload hx hb dX1_end_125 (lv_at hl 0 rfl) ?_
          refine lv_iconst (v := 2) hx hb dX1_end_127 (by decide) ?_
          refine lv_bipush (v := -4) hx hb dX1_end_128 (by decide) ?_
          refine lv_bipush (v := -4) hx hb dX1_end_130 (by decide) ?_
          obtain ⟨M12, h11, hf⟩ := ob1_some hf
          refine k_yX5_become X hK hZ hW hS hl.1 v8 h11 mlRX1_65 ⟨Nat.le_of_ble_eq_true rfl, Nat.le_of_ble_eq_true rfl⟩ ⟨Nat.le_of_ble_eq_true rfl, Nat.le_of_ble_eq_true rfl⟩ (Nat.le_of_ble_eq_true rfl) dX1_end_132 (fun H locs hW hS => ?_)
          refine lv_iinc (v := (y6 + 1)) (lv' := [(6, .int (y6 + 1)), (7, .ref (ad 6 y6.toNatClampNeg)), (1, .ref (ad 6 k1)), (4, .ref (ad 10 0)), (5, .int y5)]) hx hb dX1_end_135 hl (k := 4) rfl rfl (by decide) rfl (fun ls hl => ?_)
          refine lv_goto (tgt := 89) hx hb dX1_end_138 (by decide) ?_
          exact ih _ _ _ _ _ hf w1 _ _ _ hW hS (lv_sub hl [2, 3, 4, 0] rfl)
set_option maxRecDepth 100000 in
set_option maxHeartbeats 4000000 in
theorem l_yX1_end_23 (l : Launch) (E : Lay) (ad : Nat → Nat → Nat) (N : Mem) {p : Program} {e : Env} {s : State} {m : MethodId} {args : Array Value} {below : List Frame} {meth : Method} {c : Code} (X : CX p s m args meth c cX1_end 8 none RX1) (hK : KK E s) (hZ : ZZ E s) : ∀ (n : Nat) (M0 : Mem) (k1 : Nat) (y4 : Int32) (Mr : Mem) (hf : f_yX1_end_L23 n M0 k1 y4 = some Mr) (w1 : k1 < 6) (H : Heap) (locs : List Loc) (ls : Array Slot), WD E ad (M0, N) H → va_S (ow E) s.heap H locs → lv_has ls 8 [(0, .ref (ad 2 0)), (1, .ref (ad 6 k1)), (4, .int y4)] → W p l e (rmm 2 50) s m args below meth c H locs 0 0 (MQ below (Qv E ad (Mr, N)) args s 0 0 (ow E)) (F0 m 23 ls []) := by
  obtain ⟨hx, hb, hml, hown, hT, hr, hlk⟩ := id X
  intro n
  induction n with
  | zero =>
    intro M0 k1 y4 Mr hf
    rw [f_yX1_end_L23] at hf
    cases hf
  | succ n ih =>
    intro M0 k1 y4 Mr hf w1 H locs ls hW hS hl
    rw [f_yX1_end_L23] at hf
    refine lv_iload hx hb dX1_end_23 (lv_at hl 2 rfl) ?_
    refine lv_aload_n hx hb dX1_end_25 rfl (lv_at hl 0 rfl) ?_
    refine g_1_0 X hK hW flRX1_17 dX1_end_26 ?_
    refine g_4_1 X hK hW flRX1_128 dX1_end_29 ?_
    refine lv_icmp_ge (tgt := 75) hx hb dX1_end_32 (by decide) (fun c5 => ?_) (fun c5 => ?_)
    · rw [if_pos c5] at hf
      refine lv_aload_n hx hb dX1_end_75 rfl (lv_at hl 0 rfl) ?_
      refine g_1_1 X hK hW flRX1_11 dX1_end_76 ?_
      refine lv_astore (lv' := [(4, .ref (ad 10 0)), (0, .ref (ad 2 0)), (1, .ref (ad 6 k1))]) hx hb dX1_end_79 hl (by decide) rfl (fun ls hl => ?_)
      refine lv_aload hx hb dX1_end_81 (lv_at hl 0 rfl) ?_
      refine an_10 X hK hW dX1_end_83 ?_
      refine lv_istore (lv' := [(5, .int 6), (4, .ref (ad 10 0)), (0, .ref (ad 2 0)), (1, .ref (ad 6 k1))]) hx hb dX1_end_84 hl (by decide) rfl (fun ls hl => ?_)
      refine lv_iconst (v := 0) hx hb dX1_end_86 (by decide) ?_
      refine lv_istore (lv' := [(6, .int 0), (5, .int 6), (4, .ref (ad 10 0)), (0, .ref (ad 2 0)), (1, .ref (ad 6 k1))]) hx hb dX1_end_87 hl (by decide) rfl (fun ls hl => ?_)
      exact (l_yX1_end_89 l E ad N X hK hZ 70) _ _ _ _ _ hf w1 _ _ _ hW hS (lv_sub hl [4, 2, 1, 0] rfl)
    · rw [if_neg c5] at hf
      refine lv_aload_n hx hb dX1_end_35 rfl (lv_at hl 0 rfl) ?_
      refine g_1_0 X hK hW flRX1_17 dX1_end_36 ?_
      refine lv_iload hx hb dX1_end_39 (lv_at hl 2 rfl) ?_
      obtain ⟨r14, h13, hf⟩ := ob1_some hf
      rcases r14 with _ | j15
      · rw [om_n] at hf
        refine k_yX4_atn X hK hZ hW hS hl.1 h13 mlRX1_52 ⟨Nat.le_of_ble_eq_true rfl, Nat.le_of_ble_eq_true rfl⟩ ⟨Nat.le_of_ble_eq_true rfl, Nat.le_of_ble_eq_true rfl⟩ (Nat.le_of_ble_eq_true rfl) dX1_end_41 (fun H locs hW hS => ?_)
        refine lv_astoreN (lv' := [(5, .null), (0, .ref (ad 2 0)), (1, .ref (ad 6 k1)), (4, .int y4)]) hx hb dX1_end_44 hl (by decide) rfl (fun ls hl => ?_)
        refine lv_aloadN hx hb dX1_end_46 (lv_at hl 0 rfl) ?_
        refine lv_ifnullN (tgt := 69) hx hb dX1_end_48 (by decide) ?_
        refine lv_iinc (v := (y4 + 1)) (lv' := [(4, .int (y4 + 1)), (5, .null), (0, .ref (ad 2 0)), (1, .ref (ad 6 k1))]) hx hb dX1_end_69 hl (k := 3) rfl rfl (by decide) rfl (fun ls hl => ?_)
        refine lv_goto (tgt := 23) hx hb dX1_end_72 (by decide) ?_
        exact ih _ _ _ _ hf w1 _ _ _ hW hS (lv_sub hl [2, 3, 0] rfl)
      · rw [om_s] at hf
        refine k_yX4_ats X hK hZ hW hS hl.1 h13 mlRX1_52 ⟨Nat.le_of_ble_eq_true rfl, Nat.le_of_ble_eq_true rfl⟩ ⟨Nat.le_of_ble_eq_true rfl, Nat.le_of_ble_eq_true rfl⟩ (Nat.le_of_ble_eq_true rfl) dX1_end_41 (fun H locs hW hS => ?_)
        refine lv_astore (lv' := [(5, .ref (ad 8 j15)), (0, .ref (ad 2 0)), (1, .ref (ad 6 k1)), (4, .int y4)]) hx hb dX1_end_44 hl (by decide) rfl (fun ls hl => ?_)
        refine lv_aload hx hb dX1_end_46 (lv_at hl 0 rfl) ?_
        refine lv_ifnull hx hb dX1_end_48 ?_
        refine lv_aload hx hb dX1_end_51 (lv_at hl 0 rfl) ?_
        obtain ⟨v16, hf⟩ := gd_some hf
        refine g_7_4 X hK hW v16 flRX1_81 dX1_end_53 ?_
        refine lv_aload_n hx hb dX1_end_56 rfl (lv_at hl 2 rfl) ?_
        refine g_5_0 X hK hW w1 flRX1_86 dX1_end_57 ?_
        refine lv_icmp_ne (tgt := 69) hx hb dX1_end_60 (by decide) (fun c17 => ?_) (fun c17 => ?_)
        · rw [if_neg c17] at hf
          refine lv_iinc (v := (y4 + 1)) (lv' := [(4, .int (y4 + 1)), (5, .ref (ad 8 j15)), (0, .ref (ad 2 0)), (1, .ref (ad 6 k1))]) hx hb dX1_end_69 hl (k := 3) rfl rfl (by decide) rfl (fun ls hl => ?_)
          refine lv_goto (tgt := 23) hx hb dX1_end_72 (by decide) ?_
          exact ih _ _ _ _ hf w1 _ _ _ hW hS (lv_sub hl [2, 3, 0] rfl)
        · rw [if_pos c17] at hf
          refine lv_aload_n hx hb dX1_end_63 rfl (lv_at hl 1 rfl) ?_
          refine lv_aload hx hb dX1_end_64 (lv_at hl 0 rfl) ?_
          obtain ⟨M19, h18, hf⟩ := ob1_some hf
          refine k_yX1_vacate X hK hZ hW hS hl.1 v16 h18 mlRX1_131 ⟨Nat.le_of_ble_eq_true rfl, Nat.le_of_ble_eq_true rfl⟩ ⟨Nat.le_of_ble_eq_true rfl, Nat.le_of_ble_eq_true rfl⟩ (Nat.le_of_ble_eq_true rfl) dX1_end_66 (fun H locs hW hS => ?_)
          refine lv_iinc (v := (y4 + 1)) (lv' := [(4, .int (y4 + 1)), (5, .ref (ad 8 j15)), (0, .ref (ad 2 0)), (1, .ref (ad 6 k1))]) hx hb dX1_end_69 hl (k := 3) rfl rfl (by decide) rfl (fun ls hl => ?_)
          refine lv_goto (tgt := 23) hx hb dX1_end_72 (by decide) ?_
          exact ih _ _ _ _ hf w1 _ _ _ hW hS (lv_sub hl [2, 3, 0] rfl)
set_option maxRecDepth 100000 in
set_option maxHeartbeats 4000000 in
theorem c_yX1_end (l : Launch) (E : Lay) (ad : Nat → Nat → Nat) (M N : Mem) (i1 : Nat) (x2 : Int32) (x3 : Int32) (w1 : i1 < 6) (Mr : Mem) (hf : f_yX1_end M i1 x2 x3 = some Mr) : Met l yX1_end (Cond.code yX1_end cX1_end 8 none :: TB) (rmm 2 50) (va_Pc [.ref (ad 2 0), .ref (ad 6 i1), .int x2, .int x3] (PB E ad (M, N))) (Qv E ad (Mr, N)) 0 0 (ow E) := by
  refine Met.ofW (cc := cX1_end) (maxL := 8) (ret := none) (by decide) rfl ?_
  intro p e s m args below meth c s₁ B hml hv
  obtain ⟨rfl, hW, hK, hZ⟩ := hv
  have hT : ∀ w ∈ TB, w.before _ s = true := fun w h => atoms_spec (ws := (Cond.code yX1_end cX1_end 8 none :: TB)) B.pre w (List.mem_cons_of_mem _ h)
  have X : CX p s m _ meth c cX1_end 8 none RX1 := ⟨B.exec, B.bytes, hml, findClass_of_methodNamed B.named, hT, B.returns, B.notSynchronized⟩
  obtain ⟨hx, hb, hml, hown, hT, hr, hlk⟩ := id X
  have hS : va_S (ow E) s.heap s.heap [] := va_S.rf
  have hl := lv_entry ([.ref (ad 2 0), .ref (ad 6 i1), .int x2, .int x3]) (n := 8) (Nat.le_of_ble_eq_true rfl)
  rw [lg_entry_eq]
  generalize (lg_sl ([.ref (ad 2 0), .ref (ad 6 i1), .int x2, .int x3]) ++ List.replicate (8 - (lg_sl ([.ref (ad 2 0), .ref (ad 6 i1), .int x2, .int x3])).length) Slot.unset).toArray = ls at hl ⊢
  have hl : lv_has ls 8 [(0, .ref (ad 2 0)), (1, .ref (ad 6 i1)), (2, .int x2), (3, .int x3)] := hl
  unfold f_yX1_end at hf
  refine lv_aload_n hx hb dX1_end_0 rfl (lv_at hl 1 rfl) ?_
  refine lv_bipush (v := 7) hx hb dX1_end_1 (by decide) ?_
  refine lv_bipush (v := -4) hx hb dX1_end_3 (by decide) ?_
  refine lv_bipush (v := -4) hx hb dX1_end_5 (by decide) ?_
  obtain ⟨M2, h1, hf⟩ := ob1_some hf
  refine k_yX5_become X hK hZ hW hS hl.1 w1 h1 mlRX1_65 ⟨Nat.le_of_ble_eq_true rfl, Nat.le_of_ble_eq_true rfl⟩ ⟨Nat.le_of_ble_eq_true rfl, Nat.le_of_ble_eq_true rfl⟩ (Nat.le_of_ble_eq_true rfl) dX1_end_7 (fun H locs hW hS => ?_)
  refine lv_aload_n hx hb dX1_end_10 rfl (lv_at hl 1 rfl) ?_
  refine lv_iload_n hx hb dX1_end_11 rfl (lv_at hl 2 rfl) ?_
  obtain ⟨M3, hM3, hf⟩ := lt1_some hf
  refine p_5_13 X hK hW hS w1 hM3 flRX1_122 dX1_end_12 (fun H locs hW hS => ?_)
  refine lv_aload_n hx hb dX1_end_15 rfl (lv_at hl 1 rfl) ?_
  refine lv_iload_n hx hb dX1_end_16 rfl (lv_at hl 3 rfl) ?_
  obtain ⟨M4, hM4, hf⟩ := lt1_some hf
  refine p_5_14 X hK hW hS w1 hM4 flRX1_125 dX1_end_17 (fun H locs hW hS => ?_)
  refine lv_iconst (v := 0) hx hb dX1_end_20 (by decide) ?_
  refine lv_istore (lv' := [(4, .int 0), (0, .ref (ad 2 0)), (1, .ref (ad 6 i1)), (2, .int x2), (3, .int x3)]) hx hb dX1_end_21 hl (by decide) rfl (fun ls hl => ?_)
  exact (l_yX1_end_23 l E ad N X hK hZ 70) _ _ _ _ hf w1 _ _ _ hW hS (lv_sub hl [1, 2, 0] rfl)
set_option maxRecDepth 100000 in
set_option maxHeartbeats 4000000 in
theorem k_yX1_end {p : Program} {l : Launch} {e : Env} {R : Room} {s : State} {m : MethodId} {args : Array Value} {below : List Frame} {meth : Method} {c : Code} {H : Heap} {locs : List Loc} {cells slots : Nat} {Q : State → Prop} {cc : ByteArray} {pc nL index : Nat} {ret : Option FieldType} {own : String} {ls : Array Slot} {rest : List Value} {E : Lay} {ad : Nat → Nat → Nat} {M N : Mem} (X : CX p s m args meth c cc nL ret own) (hK : KK E s) (hZ : ZZ E s) (hW : WD E ad (M, N) H) (hS : va_S (ow E) s.heap H locs) (hsz : ls.size = nL) {i1 : Nat} {x2 : Int32} {x3 : Int32} (w1 : i1 < 6) {Mr : Mem} (hf : f_yX1_end M i1 x2 x3 = some Mr) (hn : Cond.methodLink own index yX1_end ∈ TB) (hR : 2 + 1 ≤ R.frames ∧ 8 + (8 + 11) + 50 ≤ R.locals) (hC : cells ≤ R.cells ∧ slots ≤ R.slots) (h8 : (rest.map fun v => v.category).sum ≤ 8) (hdg : decode cc pc = .ok (.invokevirtual index, 3)) (kk : ∀ (H1 : Heap) (locs1 : List Loc), WD E ad (Mr, N) H1 → va_S (ow E) s.heap H1 locs1 → W p l e R s m args below meth c H1 locs1 cells slots Q (F0 m (pc + 3) ls (rest))) : W p l e R s m args below meth c H locs cells slots Q (F0 m pc ls (.int x3 :: .int x2 :: .ref (ad 6 i1) :: .ref (ad 2 0) :: rest)) := by
  refine va_callv (va_runV (C := RX1) (As := [.ref (ad 6 i1), .int x2, .int x3]) (rest := rest) ⟨X.1, X.2.1, X.2.2.1, X.2.2.2.1, X.2.2.2.2.1⟩ (c_yX1_end l E ad M N i1 x2 x3 w1 Mr hf) (cwV 3 X.2.2.2.2.1 (gV hn im_yX1_end se_yX1_end iniRX1 cd_yX1_end) rfl rfl rfl (by decide +kernel) hR) ⟨fun a U g mk q => ⟨q.1, q.2.calling⟩, va_recv hK.1 (hW.at (c := 2) (i := 0) Nat.zero_lt_one rfl) (ci := 1) (q0 := 0) rfl rfl, fun U hU hw => ⟨rfl, PB.at hW hK hZ hS hU hw⟩⟩ rfl rfl hsz rfl (lv_room h8) hdg hC) hS (fun _ _ h => h) (fun _ h => h) (fun u t H1 locs1 ht hvm hw hB hz1 hk1 hS1 => ?_)
  subst hw
  rw [ht] at hB
  exact kk H1 locs1 hB hS1
def f_yX1_hangsOn (M : Mem) (x1 : Int32) : Option (Int32) := ob1 (f_yX1_at M x1) (fun r2 => om r2 ((some (-4))) (fun j3 => gd (j3 < 6) ((if (M 6 j3 0) = 6 then (some (M 6 j3 11)) else (if (M 6 j3 0) = 3 then ob1 (f_yX4_at M (M 6 j3 11)) (fun r8 => om r8 ((some (-4))) (fun j9 => gd (j9 < (M 60 0 1).toNatClampNeg) ((some (M 8 j9 2))))) else (some (-4)))))))
set_option maxRecDepth 100000 in
set_option maxHeartbeats 4000000 in
theorem c_yX1_hangsOn (l : Launch) (E : Lay) (ad : Nat → Nat → Nat) (M N : Mem) (x1 : Int32) (r : Int32) (hf : f_yX1_hangsOn M x1 = some r) : Met l yX1_hangsOn (Cond.code yX1_hangsOn cX1_hangsOn 4 (some .int) :: TB) (rmm 1 21) (va_Pc [.ref (ad 2 0), .int x1] (PB E ad (M, N))) (Qi E ad r (M, N)) 0 0 (ow E) := by
  refine Met.ofW (cc := cX1_hangsOn) (maxL := 4) (ret := (some .int)) (by decide) rfl ?_
  intro p e s m args below meth c s₁ B hml hv
  obtain ⟨rfl, hW, hK, hZ⟩ := hv
  have hT : ∀ w ∈ TB, w.before _ s = true := fun w h => atoms_spec (ws := (Cond.code yX1_hangsOn cX1_hangsOn 4 (some .int) :: TB)) B.pre w (List.mem_cons_of_mem _ h)
  have X : CX p s m _ meth c cX1_hangsOn 4 (some .int) RX1 := ⟨B.exec, B.bytes, hml, findClass_of_methodNamed B.named, hT, B.returns, B.notSynchronized⟩
  obtain ⟨hx, hb, hml, hown, hT, hr, hlk⟩ := id X
  have hS : va_S (ow E) s.heap s.heap [] := va_S.rf
  have hl := lv_entry ([.ref (ad 2 0), .int x1]) (n := 4) (Nat.le_of_ble_eq_true rfl)
  rw [lg_entry_eq]
  generalize (lg_sl ([.ref (ad 2 0), .int x1]) ++ List.replicate (4 - (lg_sl ([.ref (ad 2 0), .int x1])).length) Slot.unset).toArray = ls at hl ⊢
  have hl : lv_has ls 4 [(0, .ref (ad 2 0)), (1, .int x1)] := hl
  unfold f_yX1_hangsOn at hf
  refine lv_aload_n hx hb dX1_hangsOn_0 rfl (lv_at hl 0 rfl) ?_
  refine lv_iload_n hx hb dX1_hangsOn_1 rfl (lv_at hl 1 rfl) ?_
  obtain ⟨r2, h1, hf⟩ := ob1_some hf
  rcases r2 with _ | j3
  · rw [om_n] at hf
    refine k_yX1_atn X hK hZ hW hS hl.1 h1 mlRX1_75 ⟨Nat.le_of_ble_eq_true rfl, Nat.le_of_ble_eq_true rfl⟩ ⟨Nat.le_of_ble_eq_true rfl, Nat.le_of_ble_eq_true rfl⟩ (Nat.le_of_ble_eq_true rfl) dX1_hangsOn_2 (fun H locs hW hS => ?_)
    refine lv_astore_nN (lv' := [(2, .null), (0, .ref (ad 2 0)), (1, .int x1)]) hx hb dX1_hangsOn_5 rfl hl (by decide) rfl (fun ls hl => ?_)
    refine lv_aload_nN hx hb dX1_hangsOn_6 rfl (lv_at hl 0 rfl) ?_
    refine lv_ifnonnullN hx hb dX1_hangsOn_7 ?_
    refine lv_bipush (v := -4) hx hb dX1_hangsOn_10 (by decide) ?_
    obtain rfl := sp1 hf
    exact e_i ⟨hx, hb, hr, hlk⟩ hW hS dX1_hangsOn_12
  · rw [om_s] at hf
    refine k_yX1_ats X hK hZ hW hS hl.1 h1 mlRX1_75 ⟨Nat.le_of_ble_eq_true rfl, Nat.le_of_ble_eq_true rfl⟩ ⟨Nat.le_of_ble_eq_true rfl, Nat.le_of_ble_eq_true rfl⟩ (Nat.le_of_ble_eq_true rfl) dX1_hangsOn_2 (fun H locs hW hS => ?_)
    refine lv_astore_n (lv' := [(2, .ref (ad 6 j3)), (0, .ref (ad 2 0)), (1, .int x1)]) hx hb dX1_hangsOn_5 rfl hl (by decide) rfl (fun ls hl => ?_)
    refine lv_aload_n hx hb dX1_hangsOn_6 rfl (lv_at hl 0 rfl) ?_
    refine lv_ifnonnull (tgt := 13) hx hb dX1_hangsOn_7 (by decide) ?_
    refine lv_aload_n hx hb dX1_hangsOn_13 rfl (lv_at hl 0 rfl) ?_
    obtain ⟨v4, hf⟩ := gd_some hf
    refine g_5_4 X hK hW v4 flRX1_32 dX1_hangsOn_14 ?_
    refine lv_bipush (v := 6) hx hb dX1_hangsOn_17 (by decide) ?_
    refine lv_icmp_ne (tgt := 27) hx hb dX1_hangsOn_19 (by decide) (fun c5 => ?_) (fun c5 => ?_)
    · rw [if_neg c5] at hf
      refine lv_aload_n hx hb dX1_hangsOn_27 rfl (lv_at hl 0 rfl) ?_
      refine g_5_4 X hK hW v4 flRX1_32 dX1_hangsOn_28 ?_
      refine lv_iconst (v := 3) hx hb dX1_hangsOn_31 (by decide) ?_
      refine lv_icmp_ne (tgt := 49) hx hb dX1_hangsOn_32 (by decide) (fun c6 => ?_) (fun c6 => ?_)
      · rw [if_neg c6] at hf
        refine lv_null hx hb dX1_hangsOn_49 ?_
        refine lv_astore_nN (lv' := [(3, .null), (2, .ref (ad 6 j3)), (0, .ref (ad 2 0)), (1, .int x1)]) hx hb dX1_hangsOn_50 rfl hl (by decide) rfl (fun ls hl => ?_)
        refine lv_aload_nN hx hb dX1_hangsOn_51 rfl (lv_at hl 0 rfl) ?_
        refine lv_ifnonnullN hx hb dX1_hangsOn_52 ?_
        refine lv_bipush (v := -4) hx hb dX1_hangsOn_55 (by decide) ?_
        refine lv_goto (tgt := 64) hx hb dX1_hangsOn_57 (by decide) ?_
        obtain rfl := sp1 hf
        exact e_i ⟨hx, hb, hr, hlk⟩ hW hS dX1_hangsOn_64
      · rw [if_pos c6] at hf
        refine lv_aload_n hx hb dX1_hangsOn_35 rfl (lv_at hl 1 rfl) ?_
        refine g_1_0 X hK hW flRX1_17 dX1_hangsOn_36 ?_
        refine lv_aload_n hx hb dX1_hangsOn_39 rfl (lv_at hl 0 rfl) ?_
        refine g_5_15 X hK hW v4 flRX1_36 dX1_hangsOn_40 ?_
        obtain ⟨r8, h7, hf⟩ := ob1_some hf
        rcases r8 with _ | j9
        · rw [om_n] at hf
          refine k_yX4_atn X hK hZ hW hS hl.1 h7 mlRX1_52 ⟨Nat.le_of_ble_eq_true rfl, Nat.le_of_ble_eq_true rfl⟩ ⟨Nat.le_of_ble_eq_true rfl, Nat.le_of_ble_eq_true rfl⟩ (Nat.le_of_ble_eq_true rfl) dX1_hangsOn_43 (fun H locs hW hS => ?_)
          refine lv_goto (tgt := 50) hx hb dX1_hangsOn_46 (by decide) ?_
          refine lv_astore_nN (lv' := [(3, .null), (2, .ref (ad 6 j3)), (0, .ref (ad 2 0)), (1, .int x1)]) hx hb dX1_hangsOn_50 rfl hl (by decide) rfl (fun ls hl => ?_)
          refine lv_aload_nN hx hb dX1_hangsOn_51 rfl (lv_at hl 0 rfl) ?_
          refine lv_ifnonnullN hx hb dX1_hangsOn_52 ?_
          refine lv_bipush (v := -4) hx hb dX1_hangsOn_55 (by decide) ?_
          refine lv_goto (tgt := 64) hx hb dX1_hangsOn_57 (by decide) ?_
          obtain rfl := sp1 hf
          exact e_i ⟨hx, hb, hr, hlk⟩ hW hS dX1_hangsOn_64
        · rw [om_s] at hf
          refine k_yX4_ats X hK hZ hW hS hl.1 h7 mlRX1_52 ⟨Nat.le_of_ble_eq_true rfl, Nat.le_of_ble_eq_true rfl⟩ ⟨Nat.le_of_ble_eq_true rfl, Nat.le_of_ble_eq_true rfl⟩ (Nat.le_of_ble_eq_true rfl) dX1_hangsOn_43 (fun H locs hW hS => ?_)
          refine lv_goto (tgt := 50) hx hb dX1_hangsOn_46 (by decide) ?_
          refine lv_astore_n (lv' := [(3, .ref (ad 8 j9)), (2, .ref (ad 6 j3)), (0, .ref (ad 2 0)), (1, .int x1)]) hx hb dX1_hangsOn_50 rfl hl (by decide) rfl (fun ls hl => ?_)
          refine lv_aload_n hx hb dX1_hangsOn_51 rfl (lv_at hl 0 rfl) ?_
          refine lv_ifnonnull (tgt := 60) hx hb dX1_hangsOn_52 (by decide) ?_
          refine lv_aload_n hx hb dX1_hangsOn_60 rfl (lv_at hl 0 rfl) ?_
          obtain ⟨v10, hf⟩ := gd_some hf
          refine g_7_4 X hK hW v10 flRX1_81 dX1_hangsOn_61 ?_
          obtain rfl := sp1 hf
          exact e_i ⟨hx, hb, hr, hlk⟩ hW hS dX1_hangsOn_64
    · rw [if_pos c5] at hf
      refine lv_aload_n hx hb dX1_hangsOn_22 rfl (lv_at hl 0 rfl) ?_
      refine g_5_15 X hK hW v4 flRX1_36 dX1_hangsOn_23 ?_
      obtain rfl := sp1 hf
      exact e_i ⟨hx, hb, hr, hlk⟩ hW hS dX1_hangsOn_26
set_option maxRecDepth 100000 in
set_option maxHeartbeats 4000000 in
theorem k_yX1_hangsOn {p : Program} {l : Launch} {e : Env} {R : Room} {s : State} {m : MethodId} {args : Array Value} {below : List Frame} {meth : Method} {c : Code} {H : Heap} {locs : List Loc} {cells slots : Nat} {Q : State → Prop} {cc : ByteArray} {pc nL index : Nat} {ret : Option FieldType} {own : String} {ls : Array Slot} {rest : List Value} {E : Lay} {ad : Nat → Nat → Nat} {M N : Mem} (X : CX p s m args meth c cc nL ret own) (hK : KK E s) (hZ : ZZ E s) (hW : WD E ad (M, N) H) (hS : va_S (ow E) s.heap H locs) (hsz : ls.size = nL) {x1 : Int32} {r : Int32} (hf : f_yX1_hangsOn M x1 = some r) (hn : Cond.methodLink own index yX1_hangsOn ∈ TB) (hR : 1 + 1 ≤ R.frames ∧ 8 + (4 + 11) + 21 ≤ R.locals) (hC : cells ≤ R.cells ∧ slots ≤ R.slots) (h8 : (rest.map fun v => v.category).sum ≤ 8) (hdg : decode cc pc = .ok (.invokevirtual index, 3)) (kk : ∀ (H1 : Heap) (locs1 : List Loc), WD E ad (M, N) H1 → va_S (ow E) s.heap H1 locs1 → W p l e R s m args below meth c H1 locs1 cells slots Q (F0 m (pc + 3) ls (.int r :: rest))) : W p l e R s m args below meth c H locs cells slots Q (F0 m pc ls (.int x1 :: .ref (ad 2 0) :: rest)) := by
  refine va_calli (va_runV (C := RX1) (As := [.int x1]) (rest := rest) ⟨X.1, X.2.1, X.2.2.1, X.2.2.2.1, X.2.2.2.2.1⟩ (c_yX1_hangsOn l E ad M N x1 r hf) (cwV 1 X.2.2.2.2.1 (gV hn im_yX1_hangsOn se_yX1_hangsOn iniRX1 cd_yX1_hangsOn) rfl rfl rfl (by decide +kernel) hR) ⟨fun a U g mk q => ⟨q.1, q.2.calling⟩, va_recv hK.1 (hW.at (c := 2) (i := 0) Nat.zero_lt_one rfl) (ci := 1) (q0 := 0) rfl rfl, fun U hU hw => ⟨rfl, PB.at hW hK hZ hS hU hw⟩⟩ rfl rfl hsz rfl (lv_room h8) hdg hC) hS (fun _ _ h => h) (fun _ h => h) (fun r' u t H1 locs1 ht hvm hw hB hz1 hk1 hS1 => ?_)
  obtain ⟨rfl, rfl⟩ := hw
  rw [ht] at hB
  exact kk H1 locs1 hB hS1
def f_yX2_latestFor_L12 : Nat → Mem → Nat → Int32 → Int32 → Option (Int32)
  | 0, _, _, _, _ => none
  | n + 1, M0, k0, y1, y2 => (if y2 < 0 then (some (-4)) else gd (¬ (y2 < 0 ∨ 8 ≤ y2.toNatClampNeg)) ((if (((M0 18 k0 y2.toNatClampNeg) >>> (y1 &&& 31)) &&& 1) = 1 then (some y2) else (f_yX2_latestFor_L12 n M0 k0 y1 (y2 + (-1))))))
def f_yX2_latestFor (M : Mem) (i0 : Nat) (x1 : Int32) : Option (Int32) := ob1 (f_yJ9_min_7cf53 (M 7 i0 0) 8) (fun r2 => (f_yX2_latestFor_L12 70 M i0 x1 (r2 - 1)))
set_option maxRecDepth 100000 in
set_option maxHeartbeats 4000000 in
theorem l_yX2_latestFor_12 (l : Launch) (E : Lay) (ad : Nat → Nat → Nat) (N : Mem) {p : Program} {e : Env} {s : State} {m : MethodId} {args : Array Value} {below : List Frame} {meth : Method} {c : Code} (X : CX p s m args meth c cX2_latestFor 3 (some .int) RX2) (hK : KK E s) (hZ : ZZ E s) : ∀ (n : Nat) (M0 : Mem) (k0 : Nat) (y1 : Int32) (y2 : Int32) (r : Int32) (hf : f_yX2_latestFor_L12 n M0 k0 y1 y2 = some r) (w0 : k0 < 6) (H : Heap) (locs : List Loc) (ls : Array Slot), WD E ad (M0, N) H → va_S (ow E) s.heap H locs → lv_has ls 3 [(0, .ref (ad 7 k0)), (1, .int y1), (2, .int y2)] → W p l e (rmm 1 21) s m args below meth c H locs 0 0 (MQ below (Qi E ad r (M0, N)) args s 0 0 (ow E)) (F0 m 12 ls []) := by
  obtain ⟨hx, hb, hml, hown, hT, hr, hlk⟩ := id X
  intro n
  induction n with
  | zero =>
    intro M0 k0 y1 y2 r hf
    rw [f_yX2_latestFor_L12] at hf
    cases hf
  | succ n ih =>
    intro M0 k0 y1 y2 r hf w0 H locs ls hW hS hl
    rw [f_yX2_latestFor_L12] at hf
    refine lv_iload_n hx hb dX2_latestFor_12 rfl (lv_at hl 2 rfl) ?_
    refine lv_if_lt (tgt := 38) hx hb dX2_latestFor_13 (by decide) (fun c3 => ?_) (fun c3 => ?_)
    · rw [if_pos c3] at hf
      refine lv_bipush (v := -4) hx hb dX2_latestFor_38 (by decide) ?_
      obtain rfl := sp1 hf
      exact e_i ⟨hx, hb, hr, hlk⟩ hW hS dX2_latestFor_40
    · rw [if_neg c3] at hf
      refine lv_aload_n hx hb dX2_latestFor_16 rfl (lv_at hl 0 rfl) ?_
      refine g_2_1 X hK hW w0 flRX2_15 dX2_latestFor_17 ?_
      refine lv_iload_n hx hb dX2_latestFor_20 rfl (lv_at hl 2 rfl) ?_
      obtain ⟨b4, hf⟩ := gd_some hf
      refine al_18 X hK hW w0 b4 dX2_latestFor_21 ?_
      refine lv_iload_n hx hb dX2_latestFor_22 rfl (lv_at hl 1 rfl) ?_
      refine lv_ishr hx hb dX2_latestFor_23 ?_
      refine lv_iconst (v := 1) hx hb dX2_latestFor_24 (by decide) ?_
      refine lv_iand hx hb dX2_latestFor_25 ?_
      refine lv_iconst (v := 1) hx hb dX2_latestFor_26 (by decide) ?_
      refine lv_icmp_ne (tgt := 32) hx hb dX2_latestFor_27 (by decide) (fun c5 => ?_) (fun c5 => ?_)
      · rw [if_neg c5] at hf
        refine lv_iinc (v := (y2 + (-1))) (lv' := [(2, .int (y2 + (-1))), (0, .ref (ad 7 k0)), (1, .int y1)]) hx hb dX2_latestFor_32 hl (k := 2) rfl rfl (by decide) rfl (fun ls hl => ?_)
        refine lv_goto (tgt := 12) hx hb dX2_latestFor_35 (by decide) ?_
        exact ih _ _ _ _ _ hf w0 _ _ _ hW hS (lv_sub hl [1, 2, 0] rfl)
      · rw [if_pos c5] at hf
        refine lv_iload_n hx hb dX2_latestFor_30 rfl (lv_at hl 2 rfl) ?_
        obtain rfl := sp1 hf
        exact e_i ⟨hx, hb, hr, hlk⟩ hW hS dX2_latestFor_31
set_option maxRecDepth 100000 in
set_option maxHeartbeats 4000000 in
theorem c_yX2_latestFor (l : Launch) (E : Lay) (ad : Nat → Nat → Nat) (M N : Mem) (i0 : Nat) (x1 : Int32) (w0 : i0 < 6) (r : Int32) (hf : f_yX2_latestFor M i0 x1 = some r) : Met l yX2_latestFor (Cond.code yX2_latestFor cX2_latestFor 3 (some .int) :: TB) (rmm 1 21) (va_Pc [.ref (ad 7 i0), .int x1] (PB E ad (M, N))) (Qi E ad r (M, N)) 0 0 (ow E) := by
  refine Met.ofW (cc := cX2_latestFor) (maxL := 3) (ret := (some .int)) (by decide) rfl ?_
  intro p e s m args below meth c s₁ B hml hv
  obtain ⟨rfl, hW, hK, hZ⟩ := hv
  have hT : ∀ w ∈ TB, w.before _ s = true := fun w h => atoms_spec (ws := (Cond.code yX2_latestFor cX2_latestFor 3 (some .int) :: TB)) B.pre w (List.mem_cons_of_mem _ h)
  have X : CX p s m _ meth c cX2_latestFor 3 (some .int) RX2 := ⟨B.exec, B.bytes, hml, findClass_of_methodNamed B.named, hT, B.returns, B.notSynchronized⟩
  obtain ⟨hx, hb, hml, hown, hT, hr, hlk⟩ := id X
  have hS : va_S (ow E) s.heap s.heap [] := va_S.rf
  have hl := lv_entry ([.ref (ad 7 i0), .int x1]) (n := 3) (Nat.le_of_ble_eq_true rfl)
  rw [lg_entry_eq]
  generalize (lg_sl ([.ref (ad 7 i0), .int x1]) ++ List.replicate (3 - (lg_sl ([.ref (ad 7 i0), .int x1])).length) Slot.unset).toArray = ls at hl ⊢
  have hl : lv_has ls 3 [(0, .ref (ad 7 i0)), (1, .int x1)] := hl
  unfold f_yX2_latestFor at hf
  refine lv_aload_n hx hb dX2_latestFor_0 rfl (lv_at hl 0 rfl) ?_
  refine g_2_2 X hK hW w0 flRX2_18 dX2_latestFor_1 ?_
  refine lv_bipush (v := 8) hx hb dX2_latestFor_4 (by decide) ?_
  obtain ⟨r2, h1, hf⟩ := ob1_some hf
  refine k_yJ9_min_7cf53 X hK hZ hW hS hl.1 h1 mlRX2_22 ⟨Nat.le_of_ble_eq_true rfl, Nat.le_of_ble_eq_true rfl⟩ ⟨Nat.le_of_ble_eq_true rfl, Nat.le_of_ble_eq_true rfl⟩ (Nat.le_of_ble_eq_true rfl) dX2_latestFor_6 (fun H locs hW hS => ?_)
  refine lv_iconst (v := 1) hx hb dX2_latestFor_9 (by decide) ?_
  refine lv_isub hx hb dX2_latestFor_10 ?_
  refine lv_istore_n (lv' := [(2, .int (r2 - 1)), (0, .ref (ad 7 i0)), (1, .int x1)]) hx hb dX2_latestFor_11 rfl hl (by decide) rfl (fun ls hl => ?_)
  exact (l_yX2_latestFor_12 l E ad N X hK hZ 70) _ _ _ _ _ hf w0 _ _ _ hW hS (lv_sub hl [1, 2, 0] rfl)
set_option maxRecDepth 100000 in
set_option maxHeartbeats 4000000 in
theorem k_yX2_latestFor {p : Program} {l : Launch} {e : Env} {R : Room} {s : State} {m : MethodId} {args : Array Value} {below : List Frame} {meth : Method} {c : Code} {H : Heap} {locs : List Loc} {cells slots : Nat} {Q : State → Prop} {cc : ByteArray} {pc nL index : Nat} {ret : Option FieldType} {own : String} {ls : Array Slot} {rest : List Value} {E : Lay} {ad : Nat → Nat → Nat} {M N : Mem} (X : CX p s m args meth c cc nL ret own) (hK : KK E s) (hZ : ZZ E s) (hW : WD E ad (M, N) H) (hS : va_S (ow E) s.heap H locs) (hsz : ls.size = nL) {i0 : Nat} {x1 : Int32} (w0 : i0 < 6) {r : Int32} (hf : f_yX2_latestFor M i0 x1 = some r) (hn : Cond.methodLink own index yX2_latestFor ∈ TB) (hR : 1 + 1 ≤ R.frames ∧ 8 + (3 + 11) + 21 ≤ R.locals) (hC : cells ≤ R.cells ∧ slots ≤ R.slots) (h8 : (rest.map fun v => v.category).sum ≤ 8) (hdg : decode cc pc = .ok (.invokevirtual index, 3)) (kk : ∀ (H1 : Heap) (locs1 : List Loc), WD E ad (M, N) H1 → va_S (ow E) s.heap H1 locs1 → W p l e R s m args below meth c H1 locs1 cells slots Q (F0 m (pc + 3) ls (.int r :: rest))) : W p l e R s m args below meth c H locs cells slots Q (F0 m pc ls (.int x1 :: .ref (ad 7 i0) :: rest)) := by
  refine va_calli (va_runV (C := RX2) (As := [.int x1]) (rest := rest) ⟨X.1, X.2.1, X.2.2.1, X.2.2.2.1, X.2.2.2.2.1⟩ (c_yX2_latestFor l E ad M N i0 x1 w0 r hf) (cwV 1 X.2.2.2.2.1 (gV hn im_yX2_latestFor se_yX2_latestFor iniRX2 cd_yX2_latestFor) rfl rfl rfl (by decide +kernel) hR) ⟨fun a U g mk q => ⟨q.1, q.2.calling⟩, va_recv hK.1 (hW.at (c := 7) (i := i0) w0 rfl) (ci := 2) (q0 := 0) rfl rfl, fun U hU hw => ⟨rfl, PB.at hW hK hZ hS hU hw⟩⟩ rfl rfl hsz rfl (lv_room h8) hdg hC) hS (fun _ _ h => h) (fun _ h => h) (fun r' u t H1 locs1 ht hvm hw hB hz1 hk1 hS1 => ?_)
  obtain ⟨rfl, rfl⟩ := hw
  rw [ht] at hB
  exact kk H1 locs1 hB hS1
def f_yX3_isWellNamed (x0 : Int32) (x1 : Int32) (x2 : Int32) (x3 : Int32) : Option (Int32) := (if x0 < 0 then (some 0) else (if 37 ≤ x0 then (some 0) else ob1 (f_yX3_mayName (3 * x0) x1) (fun r4 => (if r4 = 0 then (some 0) else ob1 (f_yX3_mayName ((3 * x0) + 1) x2) (fun r7 => (if r7 = 0 then (some 0) else ob1 (f_yX3_mayName ((3 * x0) + 2) x3) (fun r10 => (if r10 = 0 then (some 0) else (some 1)))))))))
set_option maxRecDepth 100000 in
set_option maxHeartbeats 4000000 in
theorem c_yX3_isWellNamed (l : Launch) (E : Lay) (ad : Nat → Nat → Nat) (M N : Mem) (x0 : Int32) (x1 : Int32) (x2 : Int32) (x3 : Int32) (r : Int32) (hf : f_yX3_isWellNamed x0 x1 x2 x3 = some r) : Met l yX3_isWellNamed (Cond.code yX3_isWellNamed cX3_isWellNamed 4 (some .boolean) :: TB) (rmm 1 22) (va_Pc [.int x0, .int x1, .int x2, .int x3] (PB E ad (M, N))) (Qi E ad r (M, N)) 0 0 (ow E) := by
  refine Met.ofW (cc := cX3_isWellNamed) (maxL := 4) (ret := (some .boolean)) (by decide) rfl ?_
  intro p e s m args below meth c s₁ B hml hv
  obtain ⟨rfl, hW, hK, hZ⟩ := hv
  have hT : ∀ w ∈ TB, w.before _ s = true := fun w h => atoms_spec (ws := (Cond.code yX3_isWellNamed cX3_isWellNamed 4 (some .boolean) :: TB)) B.pre w (List.mem_cons_of_mem _ h)
  have X : CX p s m _ meth c cX3_isWellNamed 4 (some .boolean) RX3 := ⟨B.exec, B.bytes, hml, findClass_of_methodNamed B.named, hT, B.returns, B.notSynchronized⟩
  obtain ⟨hx, hb, hml, hown, hT, hr, hlk⟩ := id X
  have hS : va_S (ow E) s.heap s.heap [] := va_S.rf
  have hl := lv_entry ([.int x0, .int x1, .int x2, .int x3]) (n := 4) (Nat.le_of_ble_eq_true rfl)
  rw [lg_entry_eq]
  generalize (lg_sl ([.int x0, .int x1, .int x2, .int x3]) ++ List.replicate (4 - (lg_sl ([.int x0, .int x1, .int x2, .int x3])).length) Slot.unset).toArray = ls at hl ⊢
  have hl : lv_has ls 4 [(0, .int x0), (1, .int x1), (2, .int x2), (3, .int x3)] := hl
  unfold f_yX3_isWellNamed at hf
  refine lv_iload_n hx hb dX3_isWellNamed_0 rfl (lv_at hl 0 rfl) ?_
  refine lv_if_lt (tgt := 48) hx hb dX3_isWellNamed_1 (by decide) (fun c1 => ?_) (fun c1 => ?_)
  · rw [if_pos c1] at hf
    refine lv_iconst (v := 0) hx hb dX3_isWellNamed_48 (by decide) ?_
    obtain rfl := sp1 hf
    exact e_z ⟨hx, hb, hr, hlk⟩ rfl hW hS dX3_isWellNamed_49
  · rw [if_neg c1] at hf
    refine lv_iload_n hx hb dX3_isWellNamed_4 rfl (lv_at hl 0 rfl) ?_
    refine lv_bipush (v := 37) hx hb dX3_isWellNamed_5 (by decide) ?_
    refine lv_icmp_ge (tgt := 48) hx hb dX3_isWellNamed_7 (by decide) (fun c2 => ?_) (fun c2 => ?_)
    · rw [if_pos c2] at hf
      refine lv_iconst (v := 0) hx hb dX3_isWellNamed_48 (by decide) ?_
      obtain rfl := sp1 hf
      exact e_z ⟨hx, hb, hr, hlk⟩ rfl hW hS dX3_isWellNamed_49
    · rw [if_neg c2] at hf
      refine lv_iconst (v := 3) hx hb dX3_isWellNamed_10 (by decide) ?_
      refine lv_iload_n hx hb dX3_isWellNamed_11 rfl (lv_at hl 0 rfl) ?_
      refine lv_imul hx hb dX3_isWellNamed_12 ?_
      refine lv_iload_n hx hb dX3_isWellNamed_13 rfl (lv_at hl 1 rfl) ?_
      obtain ⟨r4, h3, hf⟩ := ob1_some hf
      refine k_yX3_mayName X hK hZ hW hS hl.1 h3 mlRX3_15 ⟨Nat.le_of_ble_eq_true rfl, Nat.le_of_ble_eq_true rfl⟩ ⟨Nat.le_of_ble_eq_true rfl, Nat.le_of_ble_eq_true rfl⟩ (Nat.le_of_ble_eq_true rfl) dX3_isWellNamed_14 (fun H locs hW hS => ?_)
      refine lv_if_eq (tgt := 48) hx hb dX3_isWellNamed_17 (by decide) (fun c5 => ?_) (fun c5 => ?_)
      · rw [if_pos c5] at hf
        refine lv_iconst (v := 0) hx hb dX3_isWellNamed_48 (by decide) ?_
        obtain rfl := sp1 hf
        exact e_z ⟨hx, hb, hr, hlk⟩ rfl hW hS dX3_isWellNamed_49
      · rw [if_neg c5] at hf
        refine lv_iconst (v := 3) hx hb dX3_isWellNamed_20 (by decide) ?_
        refine lv_iload_n hx hb dX3_isWellNamed_21 rfl (lv_at hl 0 rfl) ?_
        refine lv_imul hx hb dX3_isWellNamed_22 ?_
        refine lv_iconst (v := 1) hx hb dX3_isWellNamed_23 (by decide) ?_
        refine lv_iadd hx hb dX3_isWellNamed_24 ?_
        refine lv_iload_n hx hb dX3_isWellNamed_25 rfl (lv_at hl 2 rfl) ?_
        obtain ⟨r7, h6, hf⟩ := ob1_some hf
        refine k_yX3_mayName X hK hZ hW hS hl.1 h6 mlRX3_15 ⟨Nat.le_of_ble_eq_true rfl, Nat.le_of_ble_eq_true rfl⟩ ⟨Nat.le_of_ble_eq_true rfl, Nat.le_of_ble_eq_true rfl⟩ (Nat.le_of_ble_eq_true rfl) dX3_isWellNamed_26 (fun H locs hW hS => ?_)
        refine lv_if_eq (tgt := 48) hx hb dX3_isWellNamed_29 (by decide) (fun c8 => ?_) (fun c8 => ?_)
        · rw [if_pos c8] at hf
          refine lv_iconst (v := 0) hx hb dX3_isWellNamed_48 (by decide) ?_
          obtain rfl := sp1 hf
          exact e_z ⟨hx, hb, hr, hlk⟩ rfl hW hS dX3_isWellNamed_49
        · rw [if_neg c8] at hf
          refine lv_iconst (v := 3) hx hb dX3_isWellNamed_32 (by decide) ?_
          refine lv_iload_n hx hb dX3_isWellNamed_33 rfl (lv_at hl 0 rfl) ?_
          refine lv_imul hx hb dX3_isWellNamed_34 ?_
          refine lv_iconst (v := 2) hx hb dX3_isWellNamed_35 (by decide) ?_
          refine lv_iadd hx hb dX3_isWellNamed_36 ?_
          refine lv_iload_n hx hb dX3_isWellNamed_37 rfl (lv_at hl 3 rfl) ?_
          obtain ⟨r10, h9, hf⟩ := ob1_some hf
          refine k_yX3_mayName X hK hZ hW hS hl.1 h9 mlRX3_15 ⟨Nat.le_of_ble_eq_true rfl, Nat.le_of_ble_eq_true rfl⟩ ⟨Nat.le_of_ble_eq_true rfl, Nat.le_of_ble_eq_true rfl⟩ (Nat.le_of_ble_eq_true rfl) dX3_isWellNamed_38 (fun H locs hW hS => ?_)
          refine lv_if_eq (tgt := 48) hx hb dX3_isWellNamed_41 (by decide) (fun c11 => ?_) (fun c11 => ?_)
          · rw [if_pos c11] at hf
            refine lv_iconst (v := 0) hx hb dX3_isWellNamed_48 (by decide) ?_
            obtain rfl := sp1 hf
            exact e_z ⟨hx, hb, hr, hlk⟩ rfl hW hS dX3_isWellNamed_49
          · rw [if_neg c11] at hf
            refine lv_iconst (v := 1) hx hb dX3_isWellNamed_44 (by decide) ?_
            refine lv_goto (tgt := 49) hx hb dX3_isWellNamed_45 (by decide) ?_
            obtain rfl := sp1 hf
            exact e_z ⟨hx, hb, hr, hlk⟩ rfl hW hS dX3_isWellNamed_49
set_option maxRecDepth 100000 in
set_option maxHeartbeats 4000000 in
theorem k_yX3_isWellNamed {p : Program} {l : Launch} {e : Env} {R : Room} {s : State} {m : MethodId} {args : Array Value} {below : List Frame} {meth : Method} {c : Code} {H : Heap} {locs : List Loc} {cells slots : Nat} {Q : State → Prop} {cc : ByteArray} {pc nL index : Nat} {ret : Option FieldType} {own : String} {ls : Array Slot} {rest : List Value} {E : Lay} {ad : Nat → Nat → Nat} {M N : Mem} (X : CX p s m args meth c cc nL ret own) (hK : KK E s) (hZ : ZZ E s) (hW : WD E ad (M, N) H) (hS : va_S (ow E) s.heap H locs) (hsz : ls.size = nL) {x0 : Int32} {x1 : Int32} {x2 : Int32} {x3 : Int32} {r : Int32} (hf : f_yX3_isWellNamed x0 x1 x2 x3 = some r) (hn : Cond.methodLink own index yX3_isWellNamed ∈ TB) (hR : 1 + 1 ≤ R.frames ∧ 8 + (4 + 11) + 22 ≤ R.locals) (hC : cells ≤ R.cells ∧ slots ≤ R.slots) (h8 : (rest.map fun v => v.category).sum ≤ 8) (hdg : decode cc pc = .ok (.invokestatic index, 3)) (kk : ∀ (H1 : Heap) (locs1 : List Loc), WD E ad (M, N) H1 → va_S (ow E) s.heap H1 locs1 → W p l e R s m args below meth c H1 locs1 cells slots Q (F0 m (pc + 3) ls (.int r :: rest))) : W p l e R s m args below meth c H locs cells slots Q (F0 m pc ls (.int x3 :: .int x2 :: .int x1 :: .int x0 :: rest)) := by
  refine va_calli (va_runS (As := [.int x0, .int x1, .int x2, .int x3]) (rest := rest) ⟨X.1, X.2.1, X.2.2.1, X.2.2.2.1, X.2.2.2.2.1⟩ (c_yX3_isWellNamed l E ad M N x0 x1 x2 x3 r hf) (va_cwS 4 X.2.2.2.2.1 (gS hn im_yX3_isWellNamed iniRX3 cd_yX3_isWellNamed) rfl rfl rfl (by decide +kernel) hR) ⟨fun a U g mk q => ⟨q.1, q.2.calling⟩, fun U hU hw => ⟨rfl, PB.at hW hK hZ hS hU hw⟩⟩ rfl rfl hsz rfl (lv_room h8) hdg hC) hS (fun _ _ h => h) (fun _ h => h) (fun r' u t H1 locs1 ht hvm hw hB hz1 hk1 hS1 => ?_)
  obtain ⟨rfl, rfl⟩ := hw
  rw [ht] at hB
  exact kk H1 locs1 hB hS1
def f_yX4_make (M : Mem) (x1 : Int32) (x2 : Int32) : Option (Int32 × Mem) := ob1 (f_yX4_isFull M) (fun r2 => (if r2 = 0 then (if x2 < 0 then (some ((-4), M)) else (if x2 ≤ 12 then gd (¬ x2 < 0 ∧ x2 ≤ 12 ∧ (M 60 0 1).toNatClampNeg < 32 ∧ M 1 0 0 = nI (M 60 0 1).toNatClampNeg ∧ (M 60 0 0).toNatClampNeg ≤ (M 60 0 1).toNatClampNeg) (lt1 (gro M x1 x2) (fun M7 => ob1 (f_yX7_isRowOfThings M7 ((M 60 0 1).toNatClampNeg)) (fun r11 => (if r11 = 0 then gd ((M7 1 0 0).toNatClampNeg = (M 60 0 1).toNatClampNeg ∧ ¬ (M7 1 0 0) < 0 ∧ (M 60 0 1).toNatClampNeg = (M7 60 0 0).toNatClampNeg ∧ (M 60 0 1).toNatClampNeg < (M7 60 0 1).toNatClampNeg) (lt1 (mp M7 60 0 0 (nI ((M 60 0 1).toNatClampNeg + 1))) (fun M14 => lt1 (mp M14 1 0 0 ((M14 1 0 0) + 1)) (fun M16 => (some ((nI (M 60 0 1).toNatClampNeg), M16))))) else lt1 (rwm M7 19 (M 60 0 1).toNatClampNeg (flw (M7 19 (M 60 0 1).toNatClampNeg) (M7 8 (M 60 0 1).toNatClampNeg 4).toNatClampNeg (-4))) (fun M18 => gd ((M18 1 0 0).toNatClampNeg = (M 60 0 1).toNatClampNeg ∧ ¬ (M18 1 0 0) < 0 ∧ (M 60 0 1).toNatClampNeg = (M18 60 0 0).toNatClampNeg ∧ (M 60 0 1).toNatClampNeg < (M18 60 0 1).toNatClampNeg) (lt1 (mp M18 60 0 0 (nI ((M 60 0 1).toNatClampNeg + 1))) (fun M21 => lt1 (mp M21 1 0 0 ((M21 1 0 0) + 1)) (fun M23 => (some ((nI (M 60 0 1).toNatClampNeg), M23)))))))))) else (some ((-4), M)))) else (some ((-4), M))))
set_option maxRecDepth 100000 in
set_option maxHeartbeats 4000000 in
theorem c_yX4_make (l : Launch) (E : Lay) (ad : Nat → Nat → Nat) (M N : Mem) (x1 : Int32) (x2 : Int32) (r : Int32) (Mr : Mem) (hf : f_yX4_make M x1 x2 = some (r, Mr)) : Met l yX4_make (Cond.code yX4_make cX4_make 4 (some .int) :: TB) (rmg 2 35 2 18) (va_Pc [.ref (ad 1 0), .int x1, .int x2] (PB E ad (M, N))) (Gi E ad r (Mr, N)) 2 18 (ow E) := by
  refine Met.ofW (cc := cX4_make) (maxL := 4) (ret := (some .int)) (by decide) rfl ?_
  intro p e s m args below meth c s₁ B hml hv
  obtain ⟨rfl, hW, hK, hZ⟩ := hv
  have hT : ∀ w ∈ TB, w.before _ s = true := fun w h => atoms_spec (ws := (Cond.code yX4_make cX4_make 4 (some .int) :: TB)) B.pre w (List.mem_cons_of_mem _ h)
  have X : CX p s m _ meth c cX4_make 4 (some .int) RX4 := ⟨B.exec, B.bytes, hml, findClass_of_methodNamed B.named, hT, B.returns, B.notSynchronized⟩
  obtain ⟨hx, hb, hml, hown, hT, hr, hlk⟩ := id X
  have hS : va_S (ow E) s.heap s.heap [] := va_S.rf
  have hs0 := hW.low
  have hl := lv_entry ([.ref (ad 1 0), .int x1, .int x2]) (n := 4) (Nat.le_of_ble_eq_true rfl)
  rw [lg_entry_eq]
  generalize (lg_sl ([.ref (ad 1 0), .int x1, .int x2]) ++ List.replicate (4 - (lg_sl ([.ref (ad 1 0), .int x1, .int x2])).length) Slot.unset).toArray = ls at hl ⊢
  have hl : lv_has ls 4 [(0, .ref (ad 1 0)), (1, .int x1), (2, .int x2)] := hl
  unfold f_yX4_make at hf
  refine lv_aload_n hx hb dX4_make_0 rfl (lv_at hl 0 rfl) ?_
  obtain ⟨r2, h1, hf⟩ := ob1_some hf
  refine k_yX4_isFull X hK hZ hW hS hl.1 h1 mlRX4_24 ⟨Nat.le_of_ble_eq_true rfl, Nat.le_of_ble_eq_true rfl⟩ ⟨Nat.le_of_ble_eq_true rfl, Nat.le_of_ble_eq_true rfl⟩ (Nat.le_of_ble_eq_true rfl) dX4_make_1 (fun H locs hW hS => ?_)
  refine lv_if_ne (tgt := 17) hx hb dX4_make_4 (by decide) (fun c3 => ?_) (fun c3 => ?_)
  · rw [if_neg c3] at hf
    refine lv_bipush (v := -4) hx hb dX4_make_17 (by decide) ?_
    obtain ⟨rfl, rfl⟩ := sp2 hf
    refine W.widen (k := 2) (n := 18) (by omega) (by omega) ?_
    exact eg_i ⟨hx, hb, hr, hlk⟩ ext.rf hW hS dX4_make_19
  · rw [if_pos c3] at hf
    refine lv_iload_n hx hb dX4_make_7 rfl (lv_at hl 2 rfl) ?_
    refine lv_if_lt (tgt := 17) hx hb dX4_make_8 (by decide) (fun c4 => ?_) (fun c4 => ?_)
    · rw [if_pos c4] at hf
      refine lv_bipush (v := -4) hx hb dX4_make_17 (by decide) ?_
      obtain ⟨rfl, rfl⟩ := sp2 hf
      refine W.widen (k := 2) (n := 18) (by omega) (by omega) ?_
      exact eg_i ⟨hx, hb, hr, hlk⟩ ext.rf hW hS dX4_make_19
    · rw [if_neg c4] at hf
      refine lv_iload_n hx hb dX4_make_11 rfl (lv_at hl 2 rfl) ?_
      refine lv_bipush (v := 12) hx hb dX4_make_12 (by decide) ?_
      refine lv_icmp_le (tgt := 20) hx hb dX4_make_14 (by decide) (fun c5 => ?_) (fun c5 => ?_)
      · rw [if_pos c5] at hf
        obtain ⟨q6, hf⟩ := gd_some hf
        obtain ⟨M7, hM7, hf⟩ := lt1_some hf
        refine row_mk X hK hW hS hs0 hl q6 hM7 ⟨Nat.le_of_ble_eq_true rfl, Nat.le_of_ble_eq_true rfl⟩ ⟨Nat.le_of_ble_eq_true rfl, Nat.le_of_ble_eq_true rfl⟩ (fun ad8 H locs hEad8 hW hS => ?_)
        have hl : lv_has ls 4 [(0, .ref (ad8 1 0)), (1, .int x1), (2, .int x2)] := by rw [hEad8 1 0 (by decide) (by decide)]; exact hl
        have v9 : (M 60 0 1).toNatClampNeg < (M7 60 0 1).toNatClampNeg := by rw [hM7, gro_1, nI_clamp (by have := q6.2.2.1; omega)]; omega
        refine lv_astore_n (lv' := [(3, .ref (ad8 8 (M 60 0 1).toNatClampNeg)), (0, .ref (ad8 1 0)), (1, .int x1), (2, .int x2)]) hx hb dX4_make_35 rfl hl (by decide) rfl (fun ls hl => ?_)
        refine lv_aload_n hx hb dX4_make_36 rfl (lv_at hl 0 rfl) ?_
        obtain ⟨r11, h10, hf⟩ := ob1_some hf
        refine k_yX7_isRowOfThings X hK hZ hW hS hl.1 v9 h10 mlRX4_31 ⟨Nat.le_of_ble_eq_true rfl, Nat.le_of_ble_eq_true rfl⟩ ⟨Nat.le_of_ble_eq_true rfl, Nat.le_of_ble_eq_true rfl⟩ (Nat.le_of_ble_eq_true rfl) dX4_make_37 (fun H locs hW hS => ?_)
        refine lv_if_eq (tgt := 52) hx hb dX4_make_40 (by decide) (fun c12 => ?_) (fun c12 => ?_)
        · rw [if_pos c12] at hf
          refine lv_aload_n hx hb dX4_make_52 rfl (lv_at hl 1 rfl) ?_
          refine g_4_0 X hK hW flRX4_11 dX4_make_53 ?_
          refine lv_aload_n hx hb dX4_make_56 rfl (lv_at hl 1 rfl) ?_
          refine g_4_1 X hK hW flRX4_21 dX4_make_57 ?_
          refine lv_aload_n hx hb dX4_make_60 rfl (lv_at hl 0 rfl) ?_
          obtain ⟨q13, hf⟩ := gd_some hf
          obtain ⟨M14, hM14, hf⟩ := lt1_some hf
          have v15 : (M 60 0 1).toNatClampNeg < (M14 60 0 1).toNatClampNeg := by rw [hM14, mp_ne _ _ (fun q => absurd q.2.2 (by decide))]; exact v9
          refine as_9 X hK hW hS q13 hM14 dX4_make_61 (fun H locs hW hS => ?_)
          refine lv_aload_n hx hb dX4_make_62 rfl (lv_at hl 1 rfl) ?_
          refine lv_dup hx hb dX4_make_63 rfl ?_
          refine g_4_1 X hK hW flRX4_21 dX4_make_64 ?_
          refine lv_iconst (v := 1) hx hb dX4_make_67 (by decide) ?_
          refine lv_iadd hx hb dX4_make_68 ?_
          obtain ⟨M16, hM16, hf⟩ := lt1_some hf
          have v17 : (M 60 0 1).toNatClampNeg < (M16 60 0 1).toNatClampNeg := by rw [hM16, mp_ne _ _ (fun q => absurd q.1 (by decide))]; exact v15
          refine p_4_1 X hK hW hS hM16 flRX4_21 dX4_make_69 (fun H locs hW hS => ?_)
          refine lv_aload_n hx hb dX4_make_72 rfl (lv_at hl 0 rfl) ?_
          refine g_7_0 X hK hW v17 flRX4_44 dX4_make_73 ?_
          obtain ⟨rfl, rfl⟩ := sp2 hf
          exact eg_i ⟨hx, hb, hr, hlk⟩ hEad8 hW hS dX4_make_76
        · rw [if_neg c12] at hf
          refine lv_aload_n hx hb dX4_make_43 rfl (lv_at hl 0 rfl) ?_
          refine g_7_2 X hK hW v9 flRX4_34 dX4_make_44 ?_
          refine lv_bipush (v := -4) hx hb dX4_make_47 (by decide) ?_
          obtain ⟨M18, hM18, hf⟩ := lt1_some hf
          have v19 : (M 60 0 1).toNatClampNeg < (M18 60 0 1).toNatClampNeg := by rw [hM18, rwm_ne _ _ (fun q => absurd q.1 (by decide))]; exact v9
          refine k_fill X hK hW hS hl.1 (cp := 19) (i := (M 60 0 1).toNatClampNeg) (n := (M7 8 (M 60 0 1).toNatClampNeg 4).toNatClampNeg) v9 (by decide) (by decide) (by have := toNCN_lt (M7 8 (M 60 0 1).toNatClampNeg 4); omega) rfl (fun z => rw19 _ _ _ _ _ _) hM18 mlRX4_38 ⟨Nat.le_of_ble_eq_true rfl, Nat.le_of_ble_eq_true rfl⟩ ⟨Nat.le_of_ble_eq_true rfl, Nat.le_of_ble_eq_true rfl⟩ (Nat.le_of_ble_eq_true rfl) dX4_make_49 (fun H locs hW hS => ?_)
          refine lv_aload_n hx hb dX4_make_52 rfl (lv_at hl 1 rfl) ?_
          refine g_4_0 X hK hW flRX4_11 dX4_make_53 ?_
          refine lv_aload_n hx hb dX4_make_56 rfl (lv_at hl 1 rfl) ?_
          refine g_4_1 X hK hW flRX4_21 dX4_make_57 ?_
          refine lv_aload_n hx hb dX4_make_60 rfl (lv_at hl 0 rfl) ?_
          obtain ⟨q20, hf⟩ := gd_some hf
          obtain ⟨M21, hM21, hf⟩ := lt1_some hf
          have v22 : (M 60 0 1).toNatClampNeg < (M21 60 0 1).toNatClampNeg := by rw [hM21, mp_ne _ _ (fun q => absurd q.2.2 (by decide))]; exact v19
          refine as_9 X hK hW hS q20 hM21 dX4_make_61 (fun H locs hW hS => ?_)
          refine lv_aload_n hx hb dX4_make_62 rfl (lv_at hl 1 rfl) ?_
          refine lv_dup hx hb dX4_make_63 rfl ?_
          refine g_4_1 X hK hW flRX4_21 dX4_make_64 ?_
          refine lv_iconst (v := 1) hx hb dX4_make_67 (by decide) ?_
          refine lv_iadd hx hb dX4_make_68 ?_
          obtain ⟨M23, hM23, hf⟩ := lt1_some hf
          have v24 : (M 60 0 1).toNatClampNeg < (M23 60 0 1).toNatClampNeg := by rw [hM23, mp_ne _ _ (fun q => absurd q.1 (by decide))]; exact v22
          refine p_4_1 X hK hW hS hM23 flRX4_21 dX4_make_69 (fun H locs hW hS => ?_)
          refine lv_aload_n hx hb dX4_make_72 rfl (lv_at hl 0 rfl) ?_
          refine g_7_0 X hK hW v24 flRX4_44 dX4_make_73 ?_
          obtain ⟨rfl, rfl⟩ := sp2 hf
          exact eg_i ⟨hx, hb, hr, hlk⟩ hEad8 hW hS dX4_make_76
      · rw [if_neg c5] at hf
        refine lv_bipush (v := -4) hx hb dX4_make_17 (by decide) ?_
        obtain ⟨rfl, rfl⟩ := sp2 hf
        refine W.widen (k := 2) (n := 18) (by omega) (by omega) ?_
        exact eg_i ⟨hx, hb, hr, hlk⟩ ext.rf hW hS dX4_make_19
set_option maxRecDepth 100000 in
set_option maxHeartbeats 4000000 in
theorem k_yX4_make {p : Program} {l : Launch} {e : Env} {R : Room} {s : State} {m : MethodId} {args : Array Value} {below : List Frame} {meth : Method} {c : Code} {H : Heap} {locs : List Loc} {cells slots : Nat} {Q : State → Prop} {cc : ByteArray} {pc nL index : Nat} {ret : Option FieldType} {own : String} {ls : Array Slot} {rest : List Value} {E : Lay} {ad : Nat → Nat → Nat} {M N : Mem} (X : CX p s m args meth c cc nL ret own) (hK : KK E s) (hZ : ZZ E s) (hW : WD E ad (M, N) H) (hS : va_S (ow E) s.heap H locs) (hsz : ls.size = nL) {x1 : Int32} {x2 : Int32} {r : Int32} {Mr : Mem} (hf : f_yX4_make M x1 x2 = some (r, Mr)) (hn : Cond.methodLink own index yX4_make ∈ TB) (hR : 2 + 1 ≤ R.frames ∧ 8 + (4 + 11) + 35 ≤ R.locals) (hC : cells + 2 ≤ R.cells ∧ slots + 18 ≤ R.slots) (h8 : (rest.map fun v => v.category).sum ≤ 8) (hdg : decode cc pc = .ok (.invokevirtual index, 3)) (kk : ∀ (ad1 : Nat → Nat → Nat) (H1 : Heap) (locs1 : List Loc), ext ad ad1 → WD E ad1 (Mr, N) H1 → va_S (ow E) s.heap H1 locs1 → W p l e R s m args below meth c H1 locs1 (cells + 2) (slots + 18) Q (F0 m (pc + 3) ls (.int r :: rest))) : W p l e R s m args below meth c H locs cells slots Q (F0 m pc ls (.int x2 :: .int x1 :: .ref (ad 1 0) :: rest)) := by
  refine va_calli (va_runV (C := RX4) (As := [.int x1, .int x2]) (rest := rest) ⟨X.1, X.2.1, X.2.2.1, X.2.2.2.1, X.2.2.2.2.1⟩ (c_yX4_make l E ad M N x1 x2 r Mr hf) (cwV 2 X.2.2.2.2.1 (gV hn im_yX4_make se_yX4_make iniRX4 cd_yX4_make) rfl rfl rfl (by decide +kernel) hR) ⟨fun a U g mk q => ⟨q.1, q.2.calling⟩, va_recv hK.1 (hW.at (c := 1) (i := 0) Nat.zero_lt_one rfl) (ci := 4) (q0 := 0) rfl rfl, fun U hU hw => ⟨rfl, PB.at hW hK hZ hS hU hw⟩⟩ rfl rfl hsz rfl (lv_room h8) hdg hC) hS (fun _ _ h => h) (fun _ h => h) (fun r' u t H1 locs1 ht hvm hw hB hz1 hk1 hS1 => ?_)
  obtain ⟨ad1, P1⟩ := u
  obtain ⟨rfl, hu, hE⟩ := hw
  dsimp only at hu hE hB
  subst hu
  rw [ht] at hB
  exact kk ad1 H1 locs1 hE hB hS1
def f_yX4_bodyThatBegan (M : Mem) (x1 : Int32) : Option (Int32) := (if (M 1 0 1) = (-4) then (some (-4)) else ob1 (f_yX4_bodiesOf (M 1 0 1)) (fun r3 => (if r3 = 0 then (if x1 < 0 then (some (-4)) else (if 1 ≤ x1 then (some (-4)) else gd (¬ (x1 < 0 ∨ 1 ≤ x1.toNatClampNeg)) ((some (sc 0 x1.toNatClampNeg))))) else (if r3 = 1 then (if x1 < 0 then (some (-4)) else (if 3 ≤ x1 then (some (-4)) else gd (¬ (x1 < 0 ∨ 3 ≤ x1.toNatClampNeg)) ((some (sc 1 x1.toNatClampNeg))))) else (if r3 = 2 then (if x1 < 0 then (some (-4)) else (if 4 ≤ x1 then (some (-4)) else gd (¬ (x1 < 0 ∨ 4 ≤ x1.toNatClampNeg)) ((some (sc 2 x1.toNatClampNeg))))) else (if r3 = 3 then (if x1 < 0 then (some (-4)) else (if 5 ≤ x1 then (some (-4)) else gd (¬ (x1 < 0 ∨ 5 ≤ x1.toNatClampNeg)) ((some (sc 3 x1.toNatClampNeg))))) else (if r3 = 4 then (if x1 < 0 then (some (-4)) else (if 1 ≤ x1 then (some (-4)) else gd (¬ (x1 < 0 ∨ 1 ≤ x1.toNatClampNeg)) ((some (sc 4 x1.toNatClampNeg))))) else none)))))))
set_option maxRecDepth 100000 in
set_option maxHeartbeats 4000000 in
theorem c_yX4_bodyThatBegan (l : Launch) (E : Lay) (ad : Nat → Nat → Nat) (M N : Mem) (x1 : Int32) (r : Int32) (hf : f_yX4_bodyThatBegan M x1 = some r) : Met l yX4_bodyThatBegan (Cond.code yX4_bodyThatBegan cX4_bodyThatBegan 3 (some .int) :: TB) (rmm 1 20) (va_Pc [.ref (ad 1 0), .int x1] (PB E ad (M, N))) (Qi E ad r (M, N)) 0 0 (ow E) := by
  refine Met.ofW (cc := cX4_bodyThatBegan) (maxL := 3) (ret := (some .int)) (by decide) rfl ?_
  intro p e s m args below meth c s₁ B hml hv
  obtain ⟨rfl, hW, hK, hZ⟩ := hv
  have hT : ∀ w ∈ TB, w.before _ s = true := fun w h => atoms_spec (ws := (Cond.code yX4_bodyThatBegan cX4_bodyThatBegan 3 (some .int) :: TB)) B.pre w (List.mem_cons_of_mem _ h)
  have X : CX p s m _ meth c cX4_bodyThatBegan 3 (some .int) RX4 := ⟨B.exec, B.bytes, hml, findClass_of_methodNamed B.named, hT, B.returns, B.notSynchronized⟩
  obtain ⟨hx, hb, hml, hown, hT, hr, hlk⟩ := id X
  have hS : va_S (ow E) s.heap s.heap [] := va_S.rf
  have hl := lv_entry ([.ref (ad 1 0), .int x1]) (n := 3) (Nat.le_of_ble_eq_true rfl)
  rw [lg_entry_eq]
  generalize (lg_sl ([.ref (ad 1 0), .int x1]) ++ List.replicate (3 - (lg_sl ([.ref (ad 1 0), .int x1])).length) Slot.unset).toArray = ls at hl ⊢
  have hl : lv_has ls 3 [(0, .ref (ad 1 0)), (1, .int x1)] := hl
  unfold f_yX4_bodyThatBegan at hf
  refine lv_aload_n hx hb dX4_bodyThatBegan_0 rfl (lv_at hl 0 rfl) ?_
  refine g_4_2 X hK hW flRX4_17 dX4_bodyThatBegan_1 ?_
  refine lv_bipush (v := -4) hx hb dX4_bodyThatBegan_4 (by decide) ?_
  refine lv_icmp_ne (tgt := 12) hx hb dX4_bodyThatBegan_6 (by decide) (fun c1 => ?_) (fun c1 => ?_)
  · rw [if_neg c1] at hf
    refine lv_aload_n hx hb dX4_bodyThatBegan_12 rfl (lv_at hl 0 rfl) ?_
    refine g_4_2 X hK hW flRX4_17 dX4_bodyThatBegan_13 ?_
    obtain ⟨r3, h2, hf⟩ := ob1_some hf
    by_cases c4 : r3 = 0
    · rw [if_pos c4] at hf
      subst c4
      refine k_yX4_bodiesOf X hK hZ hW hS hl.1 h2 mlRX4_53 ⟨Nat.le_of_ble_eq_true rfl, Nat.le_of_ble_eq_true rfl⟩ ⟨Nat.le_of_ble_eq_true rfl, Nat.le_of_ble_eq_true rfl⟩ (Nat.le_of_ble_eq_true rfl) dX4_bodyThatBegan_16 (fun H locs hW hS => ?_)
      refine lv_astore_n (lv' := [(2, .ref (E.2.2.2 0)), (0, .ref (ad 1 0)), (1, .int x1)]) hx hb dX4_bodyThatBegan_19 rfl hl (by decide) rfl (fun ls hl => ?_)
      refine lv_iload_n hx hb dX4_bodyThatBegan_20 rfl (lv_at hl 2 rfl) ?_
      refine lv_if_lt (tgt := 36) hx hb dX4_bodyThatBegan_21 (by decide) (fun c5 => ?_) (fun c5 => ?_)
      · rw [if_pos c5] at hf
        refine lv_bipush (v := -4) hx hb dX4_bodyThatBegan_36 (by decide) ?_
        obtain rfl := sp1 hf
        exact e_i ⟨hx, hb, hr, hlk⟩ hW hS dX4_bodyThatBegan_38
      · rw [if_neg c5] at hf
        refine lv_iload_n hx hb dX4_bodyThatBegan_24 rfl (lv_at hl 2 rfl) ?_
        refine lv_aload_n hx hb dX4_bodyThatBegan_25 rfl (lv_at hl 0 rfl) ?_
        refine an_st X hZ hS (k := 0) (v := 1) (by decide) (by decide) dX4_bodyThatBegan_26 ?_
        refine lv_icmp_ge (tgt := 36) hx hb dX4_bodyThatBegan_27 (by decide) (fun c6 => ?_) (fun c6 => ?_)
        · rw [if_pos c6] at hf
          refine lv_bipush (v := -4) hx hb dX4_bodyThatBegan_36 (by decide) ?_
          obtain rfl := sp1 hf
          exact e_i ⟨hx, hb, hr, hlk⟩ hW hS dX4_bodyThatBegan_38
        · rw [if_neg c6] at hf
          refine lv_aload_n hx hb dX4_bodyThatBegan_30 rfl (lv_at hl 0 rfl) ?_
          refine lv_iload_n hx hb dX4_bodyThatBegan_31 rfl (lv_at hl 2 rfl) ?_
          obtain ⟨b7, hf⟩ := gd_some hf
          refine al_st X hZ hS (k := 0) (by decide) b7 dX4_bodyThatBegan_32 ?_
          refine lv_goto (tgt := 38) hx hb dX4_bodyThatBegan_33 (by decide) ?_
          obtain rfl := sp1 hf
          exact e_i ⟨hx, hb, hr, hlk⟩ hW hS dX4_bodyThatBegan_38
    rw [if_neg c4] at hf
    by_cases c8 : r3 = 1
    · rw [if_pos c8] at hf
      subst c8
      refine k_yX4_bodiesOf X hK hZ hW hS hl.1 h2 mlRX4_53 ⟨Nat.le_of_ble_eq_true rfl, Nat.le_of_ble_eq_true rfl⟩ ⟨Nat.le_of_ble_eq_true rfl, Nat.le_of_ble_eq_true rfl⟩ (Nat.le_of_ble_eq_true rfl) dX4_bodyThatBegan_16 (fun H locs hW hS => ?_)
      refine lv_astore_n (lv' := [(2, .ref (E.2.2.2 1)), (0, .ref (ad 1 0)), (1, .int x1)]) hx hb dX4_bodyThatBegan_19 rfl hl (by decide) rfl (fun ls hl => ?_)
      refine lv_iload_n hx hb dX4_bodyThatBegan_20 rfl (lv_at hl 2 rfl) ?_
      refine lv_if_lt (tgt := 36) hx hb dX4_bodyThatBegan_21 (by decide) (fun c9 => ?_) (fun c9 => ?_)
      · rw [if_pos c9] at hf
        refine lv_bipush (v := -4) hx hb dX4_bodyThatBegan_36 (by decide) ?_
        obtain rfl := sp1 hf
        exact e_i ⟨hx, hb, hr, hlk⟩ hW hS dX4_bodyThatBegan_38
      · rw [if_neg c9] at hf
        refine lv_iload_n hx hb dX4_bodyThatBegan_24 rfl (lv_at hl 2 rfl) ?_
        refine lv_aload_n hx hb dX4_bodyThatBegan_25 rfl (lv_at hl 0 rfl) ?_
        refine an_st X hZ hS (k := 1) (v := 3) (by decide) (by decide) dX4_bodyThatBegan_26 ?_
        refine lv_icmp_ge (tgt := 36) hx hb dX4_bodyThatBegan_27 (by decide) (fun c10 => ?_) (fun c10 => ?_)
        · rw [if_pos c10] at hf
          refine lv_bipush (v := -4) hx hb dX4_bodyThatBegan_36 (by decide) ?_
          obtain rfl := sp1 hf
          exact e_i ⟨hx, hb, hr, hlk⟩ hW hS dX4_bodyThatBegan_38
        · rw [if_neg c10] at hf
          refine lv_aload_n hx hb dX4_bodyThatBegan_30 rfl (lv_at hl 0 rfl) ?_
          refine lv_iload_n hx hb dX4_bodyThatBegan_31 rfl (lv_at hl 2 rfl) ?_
          obtain ⟨b11, hf⟩ := gd_some hf
          refine al_st X hZ hS (k := 1) (by decide) b11 dX4_bodyThatBegan_32 ?_
          refine lv_goto (tgt := 38) hx hb dX4_bodyThatBegan_33 (by decide) ?_
          obtain rfl := sp1 hf
          exact e_i ⟨hx, hb, hr, hlk⟩ hW hS dX4_bodyThatBegan_38
    rw [if_neg c8] at hf
    by_cases c12 : r3 = 2
    · rw [if_pos c12] at hf
      subst c12
      refine k_yX4_bodiesOf X hK hZ hW hS hl.1 h2 mlRX4_53 ⟨Nat.le_of_ble_eq_true rfl, Nat.le_of_ble_eq_true rfl⟩ ⟨Nat.le_of_ble_eq_true rfl, Nat.le_of_ble_eq_true rfl⟩ (Nat.le_of_ble_eq_true rfl) dX4_bodyThatBegan_16 (fun H locs hW hS => ?_)
      refine lv_astore_n (lv' := [(2, .ref (E.2.2.2 2)), (0, .ref (ad 1 0)), (1, .int x1)]) hx hb dX4_bodyThatBegan_19 rfl hl (by decide) rfl (fun ls hl => ?_)
      refine lv_iload_n hx hb dX4_bodyThatBegan_20 rfl (lv_at hl 2 rfl) ?_
      refine lv_if_lt (tgt := 36) hx hb dX4_bodyThatBegan_21 (by decide) (fun c13 => ?_) (fun c13 => ?_)
      · rw [if_pos c13] at hf
        refine lv_bipush (v := -4) hx hb dX4_bodyThatBegan_36 (by decide) ?_
        obtain rfl := sp1 hf
        exact e_i ⟨hx, hb, hr, hlk⟩ hW hS dX4_bodyThatBegan_38
      · rw [if_neg c13] at hf
        refine lv_iload_n hx hb dX4_bodyThatBegan_24 rfl (lv_at hl 2 rfl) ?_
        refine lv_aload_n hx hb dX4_bodyThatBegan_25 rfl (lv_at hl 0 rfl) ?_
        refine an_st X hZ hS (k := 2) (v := 4) (by decide) (by decide) dX4_bodyThatBegan_26 ?_
        refine lv_icmp_ge (tgt := 36) hx hb dX4_bodyThatBegan_27 (by decide) (fun c14 => ?_) (fun c14 => ?_)
        · rw [if_pos c14] at hf
          refine lv_bipush (v := -4) hx hb dX4_bodyThatBegan_36 (by decide) ?_
          obtain rfl := sp1 hf
          exact e_i ⟨hx, hb, hr, hlk⟩ hW hS dX4_bodyThatBegan_38
        · rw [if_neg c14] at hf
          refine lv_aload_n hx hb dX4_bodyThatBegan_30 rfl (lv_at hl 0 rfl) ?_
          refine lv_iload_n hx hb dX4_bodyThatBegan_31 rfl (lv_at hl 2 rfl) ?_
          obtain ⟨b15, hf⟩ := gd_some hf
          refine al_st X hZ hS (k := 2) (by decide) b15 dX4_bodyThatBegan_32 ?_
          refine lv_goto (tgt := 38) hx hb dX4_bodyThatBegan_33 (by decide) ?_
          obtain rfl := sp1 hf
          exact e_i ⟨hx, hb, hr, hlk⟩ hW hS dX4_bodyThatBegan_38
    rw [if_neg c12] at hf
    by_cases c16 : r3 = 3
    · rw [if_pos c16] at hf
      subst c16
      refine k_yX4_bodiesOf X hK hZ hW hS hl.1 h2 mlRX4_53 ⟨Nat.le_of_ble_eq_true rfl, Nat.le_of_ble_eq_true rfl⟩ ⟨Nat.le_of_ble_eq_true rfl, Nat.le_of_ble_eq_true rfl⟩ (Nat.le_of_ble_eq_true rfl) dX4_bodyThatBegan_16 (fun H locs hW hS => ?_)
      refine lv_astore_n (lv' := [(2, .ref (E.2.2.2 3)), (0, .ref (ad 1 0)), (1, .int x1)]) hx hb dX4_bodyThatBegan_19 rfl hl (by decide) rfl (fun ls hl => ?_)
      refine lv_iload_n hx hb dX4_bodyThatBegan_20 rfl (lv_at hl 2 rfl) ?_
      refine lv_if_lt (tgt := 36) hx hb dX4_bodyThatBegan_21 (by decide) (fun c17 => ?_) (fun c17 => ?_)
      · rw [if_pos c17] at hf
        refine lv_bipush (v := -4) hx hb dX4_bodyThatBegan_36 (by decide) ?_
        obtain rfl := sp1 hf
        exact e_i ⟨hx, hb, hr, hlk⟩ hW hS dX4_bodyThatBegan_38
      · rw [if_neg c17] at hf
        refine lv_iload_n hx hb dX4_bodyThatBegan_24 rfl (lv_at hl 2 rfl) ?_
        refine lv_aload_n hx hb dX4_bodyThatBegan_25 rfl (lv_at hl 0 rfl) ?_
        refine an_st X hZ hS (k := 3) (v := 5) (by decide) (by decide) dX4_bodyThatBegan_26 ?_
        refine lv_icmp_ge (tgt := 36) hx hb dX4_bodyThatBegan_27 (by decide) (fun c18 => ?_) (fun c18 => ?_)
        · rw [if_pos c18] at hf
          refine lv_bipush (v := -4) hx hb dX4_bodyThatBegan_36 (by decide) ?_
          obtain rfl := sp1 hf
          exact e_i ⟨hx, hb, hr, hlk⟩ hW hS dX4_bodyThatBegan_38
        · rw [if_neg c18] at hf
          refine lv_aload_n hx hb dX4_bodyThatBegan_30 rfl (lv_at hl 0 rfl) ?_
          refine lv_iload_n hx hb dX4_bodyThatBegan_31 rfl (lv_at hl 2 rfl) ?_
          obtain ⟨b19, hf⟩ := gd_some hf
          refine al_st X hZ hS (k := 3) (by decide) b19 dX4_bodyThatBegan_32 ?_
          refine lv_goto (tgt := 38) hx hb dX4_bodyThatBegan_33 (by decide) ?_
          obtain rfl := sp1 hf
          exact e_i ⟨hx, hb, hr, hlk⟩ hW hS dX4_bodyThatBegan_38
    rw [if_neg c16] at hf
    by_cases c20 : r3 = 4
    · rw [if_pos c20] at hf
      subst c20
      refine k_yX4_bodiesOf X hK hZ hW hS hl.1 h2 mlRX4_53 ⟨Nat.le_of_ble_eq_true rfl, Nat.le_of_ble_eq_true rfl⟩ ⟨Nat.le_of_ble_eq_true rfl, Nat.le_of_ble_eq_true rfl⟩ (Nat.le_of_ble_eq_true rfl) dX4_bodyThatBegan_16 (fun H locs hW hS => ?_)
      refine lv_astore_n (lv' := [(2, .ref (E.2.2.2 4)), (0, .ref (ad 1 0)), (1, .int x1)]) hx hb dX4_bodyThatBegan_19 rfl hl (by decide) rfl (fun ls hl => ?_)
      refine lv_iload_n hx hb dX4_bodyThatBegan_20 rfl (lv_at hl 2 rfl) ?_
      refine lv_if_lt (tgt := 36) hx hb dX4_bodyThatBegan_21 (by decide) (fun c21 => ?_) (fun c21 => ?_)
      · rw [if_pos c21] at hf
        refine lv_bipush (v := -4) hx hb dX4_bodyThatBegan_36 (by decide) ?_
        obtain rfl := sp1 hf
        exact e_i ⟨hx, hb, hr, hlk⟩ hW hS dX4_bodyThatBegan_38
      · rw [if_neg c21] at hf
        refine lv_iload_n hx hb dX4_bodyThatBegan_24 rfl (lv_at hl 2 rfl) ?_
        refine lv_aload_n hx hb dX4_bodyThatBegan_25 rfl (lv_at hl 0 rfl) ?_
        refine an_st X hZ hS (k := 4) (v := 1) (by decide) (by decide) dX4_bodyThatBegan_26 ?_
        refine lv_icmp_ge (tgt := 36) hx hb dX4_bodyThatBegan_27 (by decide) (fun c22 => ?_) (fun c22 => ?_)
        · rw [if_pos c22] at hf
          refine lv_bipush (v := -4) hx hb dX4_bodyThatBegan_36 (by decide) ?_
          obtain rfl := sp1 hf
          exact e_i ⟨hx, hb, hr, hlk⟩ hW hS dX4_bodyThatBegan_38
        · rw [if_neg c22] at hf
          refine lv_aload_n hx hb dX4_bodyThatBegan_30 rfl (lv_at hl 0 rfl) ?_
          refine lv_iload_n hx hb dX4_bodyThatBegan_31 rfl (lv_at hl 2 rfl) ?_
          obtain ⟨b23, hf⟩ := gd_some hf
          refine al_st X hZ hS (k := 4) (by decide) b23 dX4_bodyThatBegan_32 ?_
          refine lv_goto (tgt := 38) hx hb dX4_bodyThatBegan_33 (by decide) ?_
          obtain rfl := sp1 hf
          exact e_i ⟨hx, hb, hr, hlk⟩ hW hS dX4_bodyThatBegan_38
    rw [if_neg c20] at hf
    cases hf
  · rw [if_pos c1] at hf
    refine lv_bipush (v := -4) hx hb dX4_bodyThatBegan_9 (by decide) ?_
    obtain rfl := sp1 hf
    exact e_i ⟨hx, hb, hr, hlk⟩ hW hS dX4_bodyThatBegan_11
set_option maxRecDepth 100000 in
set_option maxHeartbeats 4000000 in
theorem k_yX4_bodyThatBegan {p : Program} {l : Launch} {e : Env} {R : Room} {s : State} {m : MethodId} {args : Array Value} {below : List Frame} {meth : Method} {c : Code} {H : Heap} {locs : List Loc} {cells slots : Nat} {Q : State → Prop} {cc : ByteArray} {pc nL index : Nat} {ret : Option FieldType} {own : String} {ls : Array Slot} {rest : List Value} {E : Lay} {ad : Nat → Nat → Nat} {M N : Mem} (X : CX p s m args meth c cc nL ret own) (hK : KK E s) (hZ : ZZ E s) (hW : WD E ad (M, N) H) (hS : va_S (ow E) s.heap H locs) (hsz : ls.size = nL) {x1 : Int32} {r : Int32} (hf : f_yX4_bodyThatBegan M x1 = some r) (hn : Cond.methodLink own index yX4_bodyThatBegan ∈ TB) (hR : 1 + 1 ≤ R.frames ∧ 8 + (3 + 11) + 20 ≤ R.locals) (hC : cells ≤ R.cells ∧ slots ≤ R.slots) (h8 : (rest.map fun v => v.category).sum ≤ 8) (hdg : decode cc pc = .ok (.invokevirtual index, 3)) (kk : ∀ (H1 : Heap) (locs1 : List Loc), WD E ad (M, N) H1 → va_S (ow E) s.heap H1 locs1 → W p l e R s m args below meth c H1 locs1 cells slots Q (F0 m (pc + 3) ls (.int r :: rest))) : W p l e R s m args below meth c H locs cells slots Q (F0 m pc ls (.int x1 :: .ref (ad 1 0) :: rest)) := by
  refine va_calli (va_runV (C := RX4) (As := [.int x1]) (rest := rest) ⟨X.1, X.2.1, X.2.2.1, X.2.2.2.1, X.2.2.2.2.1⟩ (c_yX4_bodyThatBegan l E ad M N x1 r hf) (cwV 1 X.2.2.2.2.1 (gV hn im_yX4_bodyThatBegan se_yX4_bodyThatBegan iniRX4 cd_yX4_bodyThatBegan) rfl rfl rfl (by decide +kernel) hR) ⟨fun a U g mk q => ⟨q.1, q.2.calling⟩, va_recv hK.1 (hW.at (c := 1) (i := 0) Nat.zero_lt_one rfl) (ci := 4) (q0 := 0) rfl rfl, fun U hU hw => ⟨rfl, PB.at hW hK hZ hS hU hw⟩⟩ rfl rfl hsz rfl (lv_room h8) hdg hC) hS (fun _ _ h => h) (fun _ h => h) (fun r' u t H1 locs1 ht hvm hw hB hz1 hk1 hS1 => ?_)
  obtain ⟨rfl, rfl⟩ := hw
  rw [ht] at hB
  exact kk H1 locs1 hB hS1
def f_yX4_fits (M : Mem) (x1 : Int32) (i2 : Nat) : Option (Int32) := ob1 (f_yX4_at M x1) (fun r2 => om r2 ((some 1)) (fun j3 => (if (M 8 i2 0) = 6 then (some 1) else gd (j3 < (M 60 0 1).toNatClampNeg) (ob1 (f_yX7_isBox M j3) (fun r7 => (if r7 = 0 then (some 0) else (some 1)))))))
set_option maxRecDepth 100000 in
set_option maxHeartbeats 4000000 in
theorem c_yX4_fits (l : Launch) (E : Lay) (ad : Nat → Nat → Nat) (M N : Mem) (x1 : Int32) (i2 : Nat) (w2 : i2 < (M 60 0 1).toNatClampNeg) (r : Int32) (hf : f_yX4_fits M x1 i2 = some r) : Met l yX4_fits (Cond.code yX4_fits cX4_fits 4 (some .boolean) :: TB) (rmm 1 21) (va_Pc [.ref (ad 1 0), .int x1, .ref (ad 8 i2)] (PB E ad (M, N))) (Qi E ad r (M, N)) 0 0 (ow E) := by
  refine Met.ofW (cc := cX4_fits) (maxL := 4) (ret := (some .boolean)) (by decide) rfl ?_
  intro p e s m args below meth c s₁ B hml hv
  obtain ⟨rfl, hW, hK, hZ⟩ := hv
  have hT : ∀ w ∈ TB, w.before _ s = true := fun w h => atoms_spec (ws := (Cond.code yX4_fits cX4_fits 4 (some .boolean) :: TB)) B.pre w (List.mem_cons_of_mem _ h)
  have X : CX p s m _ meth c cX4_fits 4 (some .boolean) RX4 := ⟨B.exec, B.bytes, hml, findClass_of_methodNamed B.named, hT, B.returns, B.notSynchronized⟩
  obtain ⟨hx, hb, hml, hown, hT, hr, hlk⟩ := id X
  have hS : va_S (ow E) s.heap s.heap [] := va_S.rf
  have hl := lv_entry ([.ref (ad 1 0), .int x1, .ref (ad 8 i2)]) (n := 4) (Nat.le_of_ble_eq_true rfl)
  rw [lg_entry_eq]
  generalize (lg_sl ([.ref (ad 1 0), .int x1, .ref (ad 8 i2)]) ++ List.replicate (4 - (lg_sl ([.ref (ad 1 0), .int x1, .ref (ad 8 i2)])).length) Slot.unset).toArray = ls at hl ⊢
  have hl : lv_has ls 4 [(0, .ref (ad 1 0)), (1, .int x1), (2, .ref (ad 8 i2))] := hl
  unfold f_yX4_fits at hf
  refine lv_aload_n hx hb dX4_fits_0 rfl (lv_at hl 0 rfl) ?_
  refine lv_iload_n hx hb dX4_fits_1 rfl (lv_at hl 1 rfl) ?_
  obtain ⟨r2, h1, hf⟩ := ob1_some hf
  rcases r2 with _ | j3
  · rw [om_n] at hf
    refine k_yX4_atn X hK hZ hW hS hl.1 h1 mlRX4_72 ⟨Nat.le_of_ble_eq_true rfl, Nat.le_of_ble_eq_true rfl⟩ ⟨Nat.le_of_ble_eq_true rfl, Nat.le_of_ble_eq_true rfl⟩ (Nat.le_of_ble_eq_true rfl) dX4_fits_2 (fun H locs hW hS => ?_)
    refine lv_astore_nN (lv' := [(3, .null), (0, .ref (ad 1 0)), (1, .int x1), (2, .ref (ad 8 i2))]) hx hb dX4_fits_5 rfl hl (by decide) rfl (fun ls hl => ?_)
    refine lv_aload_nN hx hb dX4_fits_6 rfl (lv_at hl 0 rfl) ?_
    refine lv_ifnullN (tgt := 26) hx hb dX4_fits_7 (by decide) ?_
    refine lv_iconst (v := 1) hx hb dX4_fits_26 (by decide) ?_
    refine lv_goto (tgt := 31) hx hb dX4_fits_27 (by decide) ?_
    obtain rfl := sp1 hf
    exact e_z ⟨hx, hb, hr, hlk⟩ rfl hW hS dX4_fits_31
  · rw [om_s] at hf
    refine k_yX4_ats X hK hZ hW hS hl.1 h1 mlRX4_72 ⟨Nat.le_of_ble_eq_true rfl, Nat.le_of_ble_eq_true rfl⟩ ⟨Nat.le_of_ble_eq_true rfl, Nat.le_of_ble_eq_true rfl⟩ (Nat.le_of_ble_eq_true rfl) dX4_fits_2 (fun H locs hW hS => ?_)
    refine lv_astore_n (lv' := [(3, .ref (ad 8 j3)), (0, .ref (ad 1 0)), (1, .int x1), (2, .ref (ad 8 i2))]) hx hb dX4_fits_5 rfl hl (by decide) rfl (fun ls hl => ?_)
    refine lv_aload_n hx hb dX4_fits_6 rfl (lv_at hl 0 rfl) ?_
    refine lv_ifnull hx hb dX4_fits_7 ?_
    refine lv_aload_n hx hb dX4_fits_10 rfl (lv_at hl 3 rfl) ?_
    refine g_7_1 X hK hW w2 flRX4_47 dX4_fits_11 ?_
    refine lv_bipush (v := 6) hx hb dX4_fits_14 (by decide) ?_
    refine lv_icmp_eq (tgt := 26) hx hb dX4_fits_16 (by decide) (fun c4 => ?_) (fun c4 => ?_)
    · rw [if_pos c4] at hf
      refine lv_iconst (v := 1) hx hb dX4_fits_26 (by decide) ?_
      refine lv_goto (tgt := 31) hx hb dX4_fits_27 (by decide) ?_
      obtain rfl := sp1 hf
      exact e_z ⟨hx, hb, hr, hlk⟩ rfl hW hS dX4_fits_31
    · rw [if_neg c4] at hf
      refine lv_aload_n hx hb dX4_fits_19 rfl (lv_at hl 0 rfl) ?_
      obtain ⟨v5, hf⟩ := gd_some hf
      obtain ⟨r7, h6, hf⟩ := ob1_some hf
      refine k_yX7_isBox X hK hZ hW hS hl.1 v5 h6 mlRX4_76 ⟨Nat.le_of_ble_eq_true rfl, Nat.le_of_ble_eq_true rfl⟩ ⟨Nat.le_of_ble_eq_true rfl, Nat.le_of_ble_eq_true rfl⟩ (Nat.le_of_ble_eq_true rfl) dX4_fits_20 (fun H locs hW hS => ?_)
      refine lv_if_eq (tgt := 30) hx hb dX4_fits_23 (by decide) (fun c8 => ?_) (fun c8 => ?_)
      · rw [if_pos c8] at hf
        refine lv_iconst (v := 0) hx hb dX4_fits_30 (by decide) ?_
        obtain rfl := sp1 hf
        exact e_z ⟨hx, hb, hr, hlk⟩ rfl hW hS dX4_fits_31
      · rw [if_neg c8] at hf
        refine lv_iconst (v := 1) hx hb dX4_fits_26 (by decide) ?_
        refine lv_goto (tgt := 31) hx hb dX4_fits_27 (by decide) ?_
        obtain rfl := sp1 hf
        exact e_z ⟨hx, hb, hr, hlk⟩ rfl hW hS dX4_fits_31
set_option maxRecDepth 100000 in
set_option maxHeartbeats 4000000 in
theorem k_yX4_fits {p : Program} {l : Launch} {e : Env} {R : Room} {s : State} {m : MethodId} {args : Array Value} {below : List Frame} {meth : Method} {c : Code} {H : Heap} {locs : List Loc} {cells slots : Nat} {Q : State → Prop} {cc : ByteArray} {pc nL index : Nat} {ret : Option FieldType} {own : String} {ls : Array Slot} {rest : List Value} {E : Lay} {ad : Nat → Nat → Nat} {M N : Mem} (X : CX p s m args meth c cc nL ret own) (hK : KK E s) (hZ : ZZ E s) (hW : WD E ad (M, N) H) (hS : va_S (ow E) s.heap H locs) (hsz : ls.size = nL) {x1 : Int32} {i2 : Nat} (w2 : i2 < (M 60 0 1).toNatClampNeg) {r : Int32} (hf : f_yX4_fits M x1 i2 = some r) (hn : Cond.methodLink own index yX4_fits ∈ TB) (hR : 1 + 1 ≤ R.frames ∧ 8 + (4 + 11) + 21 ≤ R.locals) (hC : cells ≤ R.cells ∧ slots ≤ R.slots) (h8 : (rest.map fun v => v.category).sum ≤ 8) (hdg : decode cc pc = .ok (.invokevirtual index, 3)) (kk : ∀ (H1 : Heap) (locs1 : List Loc), WD E ad (M, N) H1 → va_S (ow E) s.heap H1 locs1 → W p l e R s m args below meth c H1 locs1 cells slots Q (F0 m (pc + 3) ls (.int r :: rest))) : W p l e R s m args below meth c H locs cells slots Q (F0 m pc ls (.ref (ad 8 i2) :: .int x1 :: .ref (ad 1 0) :: rest)) := by
  refine va_calli (va_runV (C := RX4) (As := [.int x1, .ref (ad 8 i2)]) (rest := rest) ⟨X.1, X.2.1, X.2.2.1, X.2.2.2.1, X.2.2.2.2.1⟩ (c_yX4_fits l E ad M N x1 i2 w2 r hf) (cwV 2 X.2.2.2.2.1 (gV hn im_yX4_fits se_yX4_fits iniRX4 cd_yX4_fits) rfl rfl rfl (by decide +kernel) hR) ⟨fun a U g mk q => ⟨q.1, q.2.calling⟩, va_recv hK.1 (hW.at (c := 1) (i := 0) Nat.zero_lt_one rfl) (ci := 4) (q0 := 0) rfl rfl, fun U hU hw => ⟨rfl, PB.at hW hK hZ hS hU hw⟩⟩ rfl rfl hsz rfl (lv_room h8) hdg hC) hS (fun _ _ h => h) (fun _ h => h) (fun r' u t H1 locs1 ht hvm hw hB hz1 hk1 hS1 => ?_)
  obtain ⟨rfl, rfl⟩ := hw
  rw [ht] at hB
  exact kk H1 locs1 hB hS1
def f_yX5_renew (M : Mem) (i0 : Nat) (i1 : Nat) (x2 : Int32) : Option Mem := ob1 (f_yX5_become M i0 1 (-4) (-4)) (fun M2 => lt1 (mp M2 6 i0 1 (nI i1)) (fun M3 => lt1 (mp M3 6 i0 2 x2) (fun M4 => lt1 (mp M4 6 i0 3 0) (fun M5 => lt1 (rwm M5 15 i0 (flw (M5 15 i0) 6 0)) (fun M6 => lt1 (rwm M6 16 i0 (flw (M6 16 i0) 6 (-4))) (fun M7 => lt1 (mp M7 7 i0 0 0) (fun M8 => lt1 (mp M8 6 i0 4 0) (fun M9 => lt1 (mp M9 6 i0 5 0) (fun M10 => lt1 (mp M10 6 i0 7 0) (fun M11 => lt1 (mp M11 6 i0 8 0) (fun M12 => lt1 (mp M12 6 i0 9 0) (fun M13 => lt1 (mp M13 6 i0 10 0) (fun M14 => lt1 (mp M14 6 i0 15 0) (fun M15 => (some M15)))))))))))))))
set_option maxRecDepth 100000 in
set_option maxHeartbeats 4000000 in
theorem c_yX5_renew (l : Launch) (E : Lay) (ad : Nat → Nat → Nat) (M N : Mem) (i0 : Nat) (i1 : Nat) (x2 : Int32) (w0 : i0 < 6) (w1 : i1 < 8) (Mr : Mem) (hf : f_yX5_renew M i0 i1 x2 = some Mr) : Met l yX5_renew (Cond.code yX5_renew cX5_renew 3 none :: TB) (rmm 1 23) (va_Pc [.ref (ad 6 i0), .ref (ad 5 i1), .int x2] (PB E ad (M, N))) (Qv E ad (Mr, N)) 0 0 (ow E) := by
  refine Met.ofW (cc := cX5_renew) (maxL := 3) (ret := none) (by decide) rfl ?_
  intro p e s m args below meth c s₁ B hml hv
  obtain ⟨rfl, hW, hK, hZ⟩ := hv
  have hT : ∀ w ∈ TB, w.before _ s = true := fun w h => atoms_spec (ws := (Cond.code yX5_renew cX5_renew 3 none :: TB)) B.pre w (List.mem_cons_of_mem _ h)
  have X : CX p s m _ meth c cX5_renew 3 none RX5 := ⟨B.exec, B.bytes, hml, findClass_of_methodNamed B.named, hT, B.returns, B.notSynchronized⟩
  obtain ⟨hx, hb, hml, hown, hT, hr, hlk⟩ := id X
  have hS : va_S (ow E) s.heap s.heap [] := va_S.rf
  have hl := lv_entry ([.ref (ad 6 i0), .ref (ad 5 i1), .int x2]) (n := 3) (Nat.le_of_ble_eq_true rfl)
  rw [lg_entry_eq]
  generalize (lg_sl ([.ref (ad 6 i0), .ref (ad 5 i1), .int x2]) ++ List.replicate (3 - (lg_sl ([.ref (ad 6 i0), .ref (ad 5 i1), .int x2])).length) Slot.unset).toArray = ls at hl ⊢
  have hl : lv_has ls 3 [(0, .ref (ad 6 i0)), (1, .ref (ad 5 i1)), (2, .int x2)] := hl
  unfold f_yX5_renew at hf
  refine lv_aload_n hx hb dX5_renew_0 rfl (lv_at hl 0 rfl) ?_
  refine lv_iconst (v := 1) hx hb dX5_renew_1 (by decide) ?_
  refine lv_bipush (v := -4) hx hb dX5_renew_2 (by decide) ?_
  refine lv_bipush (v := -4) hx hb dX5_renew_4 (by decide) ?_
  obtain ⟨M2, h1, hf⟩ := ob1_some hf
  refine k_yX5_become X hK hZ hW hS hl.1 w0 h1 mlRX5_44 ⟨Nat.le_of_ble_eq_true rfl, Nat.le_of_ble_eq_true rfl⟩ ⟨Nat.le_of_ble_eq_true rfl, Nat.le_of_ble_eq_true rfl⟩ (Nat.le_of_ble_eq_true rfl) dX5_renew_6 (fun H locs hW hS => ?_)
  refine lv_aload_n hx hb dX5_renew_9 rfl (lv_at hl 0 rfl) ?_
  refine lv_aload_n hx hb dX5_renew_10 rfl (lv_at hl 1 rfl) ?_
  obtain ⟨M3, hM3, hf⟩ := lt1_some hf
  refine p_5_5 X hK hW hS w0 w1 hM3 flRX5_48 dX5_renew_11 (fun H locs hW hS => ?_)
  refine lv_aload_n hx hb dX5_renew_14 rfl (lv_at hl 0 rfl) ?_
  refine lv_iload_n hx hb dX5_renew_15 rfl (lv_at hl 2 rfl) ?_
  obtain ⟨M4, hM4, hf⟩ := lt1_some hf
  refine p_5_6 X hK hW hS w0 hM4 flRX5_52 dX5_renew_16 (fun H locs hW hS => ?_)
  refine lv_aload_n hx hb dX5_renew_19 rfl (lv_at hl 0 rfl) ?_
  refine lv_iconst (v := 0) hx hb dX5_renew_20 (by decide) ?_
  obtain ⟨M5, hM5, hf⟩ := lt1_some hf
  refine p_5_7 X hK hW hS w0 hM5 flRX5_55 dX5_renew_21 (fun H locs hW hS => ?_)
  refine lv_aload_n hx hb dX5_renew_24 rfl (lv_at hl 0 rfl) ?_
  refine g_5_1 X hK hW w0 flRX5_9 dX5_renew_25 ?_
  refine lv_iconst (v := 0) hx hb dX5_renew_28 (by decide) ?_
  obtain ⟨M6, hM6, hf⟩ := lt1_some hf
  refine k_fill X hK hW hS hl.1 (cp := 15) (i := i0) (n := 6) w0 (by decide) (by decide) (by omega) rfl (fun z => by show Sum.inl (E.2.1 0, 6, Sum.inl (rwm M5 15 i0 z 15 i0)) = _; rw [rwm_eq]) hM6 mlRX5_38 ⟨Nat.le_of_ble_eq_true rfl, Nat.le_of_ble_eq_true rfl⟩ ⟨Nat.le_of_ble_eq_true rfl, Nat.le_of_ble_eq_true rfl⟩ (Nat.le_of_ble_eq_true rfl) dX5_renew_29 (fun H locs hW hS => ?_)
  refine lv_aload_n hx hb dX5_renew_32 rfl (lv_at hl 0 rfl) ?_
  refine g_5_2 X hK hW w0 flRX5_15 dX5_renew_33 ?_
  refine lv_bipush (v := -4) hx hb dX5_renew_36 (by decide) ?_
  obtain ⟨M7, hM7, hf⟩ := lt1_some hf
  refine k_fill X hK hW hS hl.1 (cp := 16) (i := i0) (n := 6) w0 (by decide) (by decide) (by omega) rfl (fun z => by show Sum.inl (E.2.1 0, 6, Sum.inl (rwm M6 16 i0 z 16 i0)) = _; rw [rwm_eq]) hM7 mlRX5_38 ⟨Nat.le_of_ble_eq_true rfl, Nat.le_of_ble_eq_true rfl⟩ ⟨Nat.le_of_ble_eq_true rfl, Nat.le_of_ble_eq_true rfl⟩ (Nat.le_of_ble_eq_true rfl) dX5_renew_38 (fun H locs hW hS => ?_)
  refine lv_aload_n hx hb dX5_renew_41 rfl (lv_at hl 0 rfl) ?_
  refine g_5_3 X hK hW w0 flRX5_21 dX5_renew_42 ?_
  refine lv_iconst (v := 0) hx hb dX5_renew_45 (by decide) ?_
  obtain ⟨M8, hM8, hf⟩ := lt1_some hf
  refine p_2_2 X hK hW hS w0 hM8 flRX5_58 dX5_renew_46 (fun H locs hW hS => ?_)
  refine lv_aload_n hx hb dX5_renew_49 rfl (lv_at hl 0 rfl) ?_
  refine lv_iconst (v := 0) hx hb dX5_renew_50 (by decide) ?_
  obtain ⟨M9, hM9, hf⟩ := lt1_some hf
  refine p_5_8 X hK hW hS w0 rfl rfl hM9 flRX5_61 dX5_renew_51 (fun H locs hW hS => ?_)
  refine lv_aload_n hx hb dX5_renew_54 rfl (lv_at hl 0 rfl) ?_
  refine lv_iconst (v := 0) hx hb dX5_renew_55 (by decide) ?_
  obtain ⟨M10, hM10, hf⟩ := lt1_some hf
  refine p_5_9 X hK hW hS w0 rfl rfl hM10 flRX5_65 dX5_renew_56 (fun H locs hW hS => ?_)
  refine lv_aload_n hx hb dX5_renew_59 rfl (lv_at hl 0 rfl) ?_
  refine lv_iconst (v := 0) hx hb dX5_renew_60 (by decide) ?_
  obtain ⟨M11, hM11, hf⟩ := lt1_some hf
  refine p_5_11 X hK hW hS w0 hM11 flRX5_68 dX5_renew_61 (fun H locs hW hS => ?_)
  refine lv_aload_n hx hb dX5_renew_64 rfl (lv_at hl 0 rfl) ?_
  refine lv_iconst (v := 0) hx hb dX5_renew_65 (by decide) ?_
  obtain ⟨M12, hM12, hf⟩ := lt1_some hf
  refine p_5_12 X hK hW hS w0 hM12 flRX5_71 dX5_renew_66 (fun H locs hW hS => ?_)
  refine lv_aload_n hx hb dX5_renew_69 rfl (lv_at hl 0 rfl) ?_
  refine lv_iconst (v := 0) hx hb dX5_renew_70 (by decide) ?_
  obtain ⟨M13, hM13, hf⟩ := lt1_some hf
  refine p_5_13 X hK hW hS w0 hM13 flRX5_74 dX5_renew_71 (fun H locs hW hS => ?_)
  refine lv_aload_n hx hb dX5_renew_74 rfl (lv_at hl 0 rfl) ?_
  refine lv_iconst (v := 0) hx hb dX5_renew_75 (by decide) ?_
  obtain ⟨M14, hM14, hf⟩ := lt1_some hf
  refine p_5_14 X hK hW hS w0 hM14 flRX5_77 dX5_renew_76 (fun H locs hW hS => ?_)
  refine lv_aload_n hx hb dX5_renew_79 rfl (lv_at hl 0 rfl) ?_
  refine lv_iconst (v := 0) hx hb dX5_renew_80 (by decide) ?_
  obtain ⟨M15, hM15, hf⟩ := lt1_some hf
  refine p_5_19 X hK hW hS w0 hM15 flRX5_80 dX5_renew_81 (fun H locs hW hS => ?_)
  obtain rfl := sp1 hf
  exact e_v ⟨hx, hb, hr, hlk⟩ hW hS dX5_renew_84
set_option maxRecDepth 100000 in
set_option maxHeartbeats 4000000 in
theorem k_yX5_renew {p : Program} {l : Launch} {e : Env} {R : Room} {s : State} {m : MethodId} {args : Array Value} {below : List Frame} {meth : Method} {c : Code} {H : Heap} {locs : List Loc} {cells slots : Nat} {Q : State → Prop} {cc : ByteArray} {pc nL index : Nat} {ret : Option FieldType} {own : String} {ls : Array Slot} {rest : List Value} {E : Lay} {ad : Nat → Nat → Nat} {M N : Mem} (X : CX p s m args meth c cc nL ret own) (hK : KK E s) (hZ : ZZ E s) (hW : WD E ad (M, N) H) (hS : va_S (ow E) s.heap H locs) (hsz : ls.size = nL) {i0 : Nat} {i1 : Nat} {x2 : Int32} (w0 : i0 < 6) (w1 : i1 < 8) {Mr : Mem} (hf : f_yX5_renew M i0 i1 x2 = some Mr) (hn : Cond.methodLink own index yX5_renew ∈ TB) (hR : 1 + 1 ≤ R.frames ∧ 8 + (3 + 11) + 23 ≤ R.locals) (hC : cells ≤ R.cells ∧ slots ≤ R.slots) (h8 : (rest.map fun v => v.category).sum ≤ 8) (hdg : decode cc pc = .ok (.invokevirtual index, 3)) (kk : ∀ (H1 : Heap) (locs1 : List Loc), WD E ad (Mr, N) H1 → va_S (ow E) s.heap H1 locs1 → W p l e R s m args below meth c H1 locs1 cells slots Q (F0 m (pc + 3) ls (rest))) : W p l e R s m args below meth c H locs cells slots Q (F0 m pc ls (.int x2 :: .ref (ad 5 i1) :: .ref (ad 6 i0) :: rest)) := by
  refine va_callv (va_runV (C := RX5) (As := [.ref (ad 5 i1), .int x2]) (rest := rest) ⟨X.1, X.2.1, X.2.2.1, X.2.2.2.1, X.2.2.2.2.1⟩ (c_yX5_renew l E ad M N i0 i1 x2 w0 w1 Mr hf) (cwV 2 X.2.2.2.2.1 (gV hn im_yX5_renew se_yX5_renew iniRX5 cd_yX5_renew) rfl rfl rfl (by decide +kernel) hR) ⟨fun a U g mk q => ⟨q.1, q.2.calling⟩, va_recv hK.1 (hW.at (c := 6) (i := i0) w0 rfl) (ci := 5) (q0 := 0) rfl rfl, fun U hU hw => ⟨rfl, PB.at hW hK hZ hS hU hw⟩⟩ rfl rfl hsz rfl (lv_room h8) hdg hC) hS (fun _ _ h => h) (fun _ h => h) (fun u t H1 locs1 ht hvm hw hB hz1 hk1 hS1 => ?_)
  subst hw
  rw [ht] at hB
  exact kk H1 locs1 hB hS1
def f_yX5_jump (M : Mem) (i0 : Nat) (x1 : Int32) : Option Mem := (if M 6 i0 1 < 0 then lt1 (mp M 6 i0 3 0) (fun M2 => (some M2)) else gd ((M 6 i0 1).toNatClampNeg < 8) (ob1 (f_yJ9_min_7cf53 x1 (M 5 (M 6 i0 1).toNatClampNeg 0)) (fun r5 => lt1 (mp M 6 i0 3 r5) (fun M6 => (some M6)))))
set_option maxRecDepth 100000 in
set_option maxHeartbeats 4000000 in
theorem c_yX5_jump (l : Launch) (E : Lay) (ad : Nat → Nat → Nat) (M N : Mem) (i0 : Nat) (x1 : Int32) (w0 : i0 < 6) (Mr : Mem) (hf : f_yX5_jump M i0 x1 = some Mr) : Met l yX5_jump (Cond.code yX5_jump cX5_jump 2 none :: TB) (rmm 1 21) (va_Pc [.ref (ad 6 i0), .int x1] (PB E ad (M, N))) (Qv E ad (Mr, N)) 0 0 (ow E) := by
  refine Met.ofW (cc := cX5_jump) (maxL := 2) (ret := none) (by decide) rfl ?_
  intro p e s m args below meth c s₁ B hml hv
  obtain ⟨rfl, hW, hK, hZ⟩ := hv
  have hT : ∀ w ∈ TB, w.before _ s = true := fun w h => atoms_spec (ws := (Cond.code yX5_jump cX5_jump 2 none :: TB)) B.pre w (List.mem_cons_of_mem _ h)
  have X : CX p s m _ meth c cX5_jump 2 none RX5 := ⟨B.exec, B.bytes, hml, findClass_of_methodNamed B.named, hT, B.returns, B.notSynchronized⟩
  obtain ⟨hx, hb, hml, hown, hT, hr, hlk⟩ := id X
  have hS : va_S (ow E) s.heap s.heap [] := va_S.rf
  have hl := lv_entry ([.ref (ad 6 i0), .int x1]) (n := 2) (Nat.le_of_ble_eq_true rfl)
  rw [lg_entry_eq]
  generalize (lg_sl ([.ref (ad 6 i0), .int x1]) ++ List.replicate (2 - (lg_sl ([.ref (ad 6 i0), .int x1])).length) Slot.unset).toArray = ls at hl ⊢
  have hl : lv_has ls 2 [(0, .ref (ad 6 i0)), (1, .int x1)] := hl
  unfold f_yX5_jump at hf
  refine lv_aload_n hx hb dX5_jump_0 rfl (lv_at hl 0 rfl) ?_
  refine lv_aload_n hx hb dX5_jump_1 rfl (lv_at hl 0 rfl) ?_
  by_cases c1 : M 6 i0 1 < 0
  · rw [if_pos c1] at hf
    refine g_5_5n X hK hW w0 flRX5_48 dX5_jump_2 c1 ?_
    refine lv_ifnonnullN hx hb dX5_jump_5 ?_
    refine lv_iconst (v := 0) hx hb dX5_jump_8 (by decide) ?_
    refine lv_goto (tgt := 23) hx hb dX5_jump_9 (by decide) ?_
    obtain ⟨M2, hM2, hf⟩ := lt1_some hf
    refine p_5_7 X hK hW hS w0 hM2 flRX5_55 dX5_jump_23 (fun H locs hW hS => ?_)
    obtain rfl := sp1 hf
    exact e_v ⟨hx, hb, hr, hlk⟩ hW hS dX5_jump_26
  · rw [if_neg c1] at hf
    refine g_5_5s X hK hW w0 flRX5_48 dX5_jump_2 c1 ?_
    refine lv_ifnonnull (tgt := 12) hx hb dX5_jump_5 (by decide) ?_
    refine lv_iload_n hx hb dX5_jump_12 rfl (lv_at hl 1 rfl) ?_
    refine lv_aload_n hx hb dX5_jump_13 rfl (lv_at hl 0 rfl) ?_
    refine g_5_5s X hK hW w0 flRX5_48 dX5_jump_14 c1 ?_
    obtain ⟨v3, hf⟩ := gd_some hf
    refine g_3_1 X hK hW v3 flRX5_83 dX5_jump_17 ?_
    obtain ⟨r5, h4, hf⟩ := ob1_some hf
    refine k_yJ9_min_7cf53 X hK hZ hW hS hl.1 h4 mlRX5_86 ⟨Nat.le_of_ble_eq_true rfl, Nat.le_of_ble_eq_true rfl⟩ ⟨Nat.le_of_ble_eq_true rfl, Nat.le_of_ble_eq_true rfl⟩ (Nat.le_of_ble_eq_true rfl) dX5_jump_20 (fun H locs hW hS => ?_)
    obtain ⟨M6, hM6, hf⟩ := lt1_some hf
    refine p_5_7 X hK hW hS w0 hM6 flRX5_55 dX5_jump_23 (fun H locs hW hS => ?_)
    obtain rfl := sp1 hf
    exact e_v ⟨hx, hb, hr, hlk⟩ hW hS dX5_jump_26
set_option maxRecDepth 100000 in
set_option maxHeartbeats 4000000 in
theorem k_yX5_jump {p : Program} {l : Launch} {e : Env} {R : Room} {s : State} {m : MethodId} {args : Array Value} {below : List Frame} {meth : Method} {c : Code} {H : Heap} {locs : List Loc} {cells slots : Nat} {Q : State → Prop} {cc : ByteArray} {pc nL index : Nat} {ret : Option FieldType} {own : String} {ls : Array Slot} {rest : List Value} {E : Lay} {ad : Nat → Nat → Nat} {M N : Mem} (X : CX p s m args meth c cc nL ret own) (hK : KK E s) (hZ : ZZ E s) (hW : WD E ad (M, N) H) (hS : va_S (ow E) s.heap H locs) (hsz : ls.size = nL) {i0 : Nat} {x1 : Int32} (w0 : i0 < 6) {Mr : Mem} (hf : f_yX5_jump M i0 x1 = some Mr) (hn : Cond.methodLink own index yX5_jump ∈ TB) (hR : 1 + 1 ≤ R.frames ∧ 8 + (2 + 11) + 21 ≤ R.locals) (hC : cells ≤ R.cells ∧ slots ≤ R.slots) (h8 : (rest.map fun v => v.category).sum ≤ 8) (hdg : decode cc pc = .ok (.invokevirtual index, 3)) (kk : ∀ (H1 : Heap) (locs1 : List Loc), WD E ad (Mr, N) H1 → va_S (ow E) s.heap H1 locs1 → W p l e R s m args below meth c H1 locs1 cells slots Q (F0 m (pc + 3) ls (rest))) : W p l e R s m args below meth c H locs cells slots Q (F0 m pc ls (.int x1 :: .ref (ad 6 i0) :: rest)) := by
  refine va_callv (va_runV (C := RX5) (As := [.int x1]) (rest := rest) ⟨X.1, X.2.1, X.2.2.1, X.2.2.2.1, X.2.2.2.2.1⟩ (c_yX5_jump l E ad M N i0 x1 w0 Mr hf) (cwV 1 X.2.2.2.2.1 (gV hn im_yX5_jump se_yX5_jump iniRX5 cd_yX5_jump) rfl rfl rfl (by decide +kernel) hR) ⟨fun a U g mk q => ⟨q.1, q.2.calling⟩, va_recv hK.1 (hW.at (c := 6) (i := i0) w0 rfl) (ci := 5) (q0 := 0) rfl rfl, fun U hU hw => ⟨rfl, PB.at hW hK hZ hS hU hw⟩⟩ rfl rfl hsz rfl (lv_room h8) hdg hC) hS (fun _ _ h => h) (fun _ h => h) (fun u t H1 locs1 ht hvm hw hB hz1 hk1 hS1 => ?_)
  subst hw
  rw [ht] at hB
  exact kk H1 locs1 hB hS1
def f_yX6_note (M : Mem) (x1 : Int32) (x2 : Int32) (x3 : Int32) : Option Mem := ob1 (f_yJ9_floorMod_7cf53 (M 4 0 2) 60) (fun r2 => gd (¬ ((r2 * 3) < 0 ∨ 180 ≤ (r2 * 3).toNatClampNeg)) (lt1 (mp M 13 0 (r2 * 3).toNatClampNeg x1) (fun M4 => gd (¬ (((r2 * 3) + 1) < 0 ∨ 180 ≤ ((r2 * 3) + 1).toNatClampNeg)) (lt1 (mp M4 13 0 ((r2 * 3) + 1).toNatClampNeg x2) (fun M6 => gd (¬ (((r2 * 3) + 2) < 0 ∨ 180 ≤ ((r2 * 3) + 2).toNatClampNeg)) (lt1 (mp M6 13 0 ((r2 * 3) + 2).toNatClampNeg x3) (fun M8 => lt1 (mp M8 4 0 2 ((M8 4 0 2) + 1)) (fun M9 => (some M9)))))))))
set_option maxRecDepth 100000 in
set_option maxHeartbeats 4000000 in
theorem c_yX6_note (l : Launch) (E : Lay) (ad : Nat → Nat → Nat) (M N : Mem) (x1 : Int32) (x2 : Int32) (x3 : Int32) (Mr : Mem) (hf : f_yX6_note M x1 x2 x3 = some Mr) : Met l yX6_note (Cond.code yX6_note cX6_note 5 none :: TB) (rmm 1 22) (va_Pc [.ref (ad 4 0), .int x1, .int x2, .int x3] (PB E ad (M, N))) (Qv E ad (Mr, N)) 0 0 (ow E) := by
  refine Met.ofW (cc := cX6_note) (maxL := 5) (ret := none) (by decide) rfl ?_
  intro p e s m args below meth c s₁ B hml hv
  obtain ⟨rfl, hW, hK, hZ⟩ := hv
  have hT : ∀ w ∈ TB, w.before _ s = true := fun w h => atoms_spec (ws := (Cond.code yX6_note cX6_note 5 none :: TB)) B.pre w (List.mem_cons_of_mem _ h)
  have X : CX p s m _ meth c cX6_note 5 none RX6 := ⟨B.exec, B.bytes, hml, findClass_of_methodNamed B.named, hT, B.returns, B.notSynchronized⟩
  obtain ⟨hx, hb, hml, hown, hT, hr, hlk⟩ := id X
  have hS : va_S (ow E) s.heap s.heap [] := va_S.rf
  have hl := lv_entry ([.ref (ad 4 0), .int x1, .int x2, .int x3]) (n := 5) (Nat.le_of_ble_eq_true rfl)
  rw [lg_entry_eq]
  generalize (lg_sl ([.ref (ad 4 0), .int x1, .int x2, .int x3]) ++ List.replicate (5 - (lg_sl ([.ref (ad 4 0), .int x1, .int x2, .int x3])).length) Slot.unset).toArray = ls at hl ⊢
  have hl : lv_has ls 5 [(0, .ref (ad 4 0)), (1, .int x1), (2, .int x2), (3, .int x3)] := hl
  unfold f_yX6_note at hf
  refine lv_aload_n hx hb dX6_note_0 rfl (lv_at hl 0 rfl) ?_
  refine g_6_4 X hK hW flRX6_25 dX6_note_1 ?_
  refine lv_bipush (v := 60) hx hb dX6_note_4 (by decide) ?_
  obtain ⟨r2, h1, hf⟩ := ob1_some hf
  refine k_yJ9_floorMod_7cf53 X hK hZ hW hS hl.1 h1 mlRX6_28 ⟨Nat.le_of_ble_eq_true rfl, Nat.le_of_ble_eq_true rfl⟩ ⟨Nat.le_of_ble_eq_true rfl, Nat.le_of_ble_eq_true rfl⟩ (Nat.le_of_ble_eq_true rfl) dX6_note_6 (fun H locs hW hS => ?_)
  refine lv_iconst (v := 3) hx hb dX6_note_9 (by decide) ?_
  refine lv_imul hx hb dX6_note_10 ?_
  refine lv_istore (lv' := [(4, .int (r2 * 3)), (0, .ref (ad 4 0)), (1, .int x1), (2, .int x2), (3, .int x3)]) hx hb dX6_note_11 hl (by decide) rfl (fun ls hl => ?_)
  refine lv_aload_n hx hb dX6_note_13 rfl (lv_at hl 1 rfl) ?_
  refine g_6_1 X hK hW flRX6_15 dX6_note_14 ?_
  refine lv_iload hx hb dX6_note_17 (lv_at hl 0 rfl) ?_
  refine lv_iload_n hx hb dX6_note_19 rfl (lv_at hl 2 rfl) ?_
  obtain ⟨b3, hf⟩ := gd_some hf
  obtain ⟨M4, hM4, hf⟩ := lt1_some hf
  refine as_13 X hK hW hS b3 hM4 dX6_note_20 (fun H locs hW hS => ?_)
  refine lv_aload_n hx hb dX6_note_21 rfl (lv_at hl 1 rfl) ?_
  refine g_6_1 X hK hW flRX6_15 dX6_note_22 ?_
  refine lv_iload hx hb dX6_note_25 (lv_at hl 0 rfl) ?_
  refine lv_iconst (v := 1) hx hb dX6_note_27 (by decide) ?_
  refine lv_iadd hx hb dX6_note_28 ?_
  refine lv_iload_n hx hb dX6_note_29 rfl (lv_at hl 3 rfl) ?_
  obtain ⟨b5, hf⟩ := gd_some hf
  obtain ⟨M6, hM6, hf⟩ := lt1_some hf
  refine as_13 X hK hW hS b5 hM6 dX6_note_30 (fun H locs hW hS => ?_)
  refine lv_aload_n hx hb dX6_note_31 rfl (lv_at hl 1 rfl) ?_
  refine g_6_1 X hK hW flRX6_15 dX6_note_32 ?_
  refine lv_iload hx hb dX6_note_35 (lv_at hl 0 rfl) ?_
  refine lv_iconst (v := 2) hx hb dX6_note_37 (by decide) ?_
  refine lv_iadd hx hb dX6_note_38 ?_
  refine lv_iload_n hx hb dX6_note_39 rfl (lv_at hl 4 rfl) ?_
  obtain ⟨b7, hf⟩ := gd_some hf
  obtain ⟨M8, hM8, hf⟩ := lt1_some hf
  refine as_13 X hK hW hS b7 hM8 dX6_note_40 (fun H locs hW hS => ?_)
  refine lv_aload_n hx hb dX6_note_41 rfl (lv_at hl 1 rfl) ?_
  refine lv_dup hx hb dX6_note_42 rfl ?_
  refine g_6_4 X hK hW flRX6_25 dX6_note_43 ?_
  refine lv_iconst (v := 1) hx hb dX6_note_46 (by decide) ?_
  refine lv_iadd hx hb dX6_note_47 ?_
  obtain ⟨M9, hM9, hf⟩ := lt1_some hf
  refine p_6_4 X hK hW hS hM9 flRX6_25 dX6_note_48 (fun H locs hW hS => ?_)
  obtain rfl := sp1 hf
  exact e_v ⟨hx, hb, hr, hlk⟩ hW hS dX6_note_51
set_option maxRecDepth 100000 in
set_option maxHeartbeats 4000000 in
theorem k_yX6_note {p : Program} {l : Launch} {e : Env} {R : Room} {s : State} {m : MethodId} {args : Array Value} {below : List Frame} {meth : Method} {c : Code} {H : Heap} {locs : List Loc} {cells slots : Nat} {Q : State → Prop} {cc : ByteArray} {pc nL index : Nat} {ret : Option FieldType} {own : String} {ls : Array Slot} {rest : List Value} {E : Lay} {ad : Nat → Nat → Nat} {M N : Mem} (X : CX p s m args meth c cc nL ret own) (hK : KK E s) (hZ : ZZ E s) (hW : WD E ad (M, N) H) (hS : va_S (ow E) s.heap H locs) (hsz : ls.size = nL) {x1 : Int32} {x2 : Int32} {x3 : Int32} {Mr : Mem} (hf : f_yX6_note M x1 x2 x3 = some Mr) (hn : Cond.methodLink own index yX6_note ∈ TB) (hR : 1 + 1 ≤ R.frames ∧ 8 + (5 + 11) + 22 ≤ R.locals) (hC : cells ≤ R.cells ∧ slots ≤ R.slots) (h8 : (rest.map fun v => v.category).sum ≤ 8) (hdg : decode cc pc = .ok (.invokevirtual index, 3)) (kk : ∀ (H1 : Heap) (locs1 : List Loc), WD E ad (Mr, N) H1 → va_S (ow E) s.heap H1 locs1 → W p l e R s m args below meth c H1 locs1 cells slots Q (F0 m (pc + 3) ls (rest))) : W p l e R s m args below meth c H locs cells slots Q (F0 m pc ls (.int x3 :: .int x2 :: .int x1 :: .ref (ad 4 0) :: rest)) := by
  refine va_callv (va_runV (C := RX6) (As := [.int x1, .int x2, .int x3]) (rest := rest) ⟨X.1, X.2.1, X.2.2.1, X.2.2.2.1, X.2.2.2.2.1⟩ (c_yX6_note l E ad M N x1 x2 x3 Mr hf) (cwV 3 X.2.2.2.2.1 (gV hn im_yX6_note se_yX6_note iniRX6 cd_yX6_note) rfl rfl rfl (by decide +kernel) hR) ⟨fun a U g mk q => ⟨q.1, q.2.calling⟩, va_recv hK.1 (hW.at (c := 4) (i := 0) Nat.zero_lt_one rfl) (ci := 6) (q0 := 0) rfl rfl, fun U hU hw => ⟨rfl, PB.at hW hK hZ hS hU hw⟩⟩ rfl rfl hsz rfl (lv_room h8) hdg hC) hS (fun _ _ h => h) (fun _ h => h) (fun u t H1 locs1 ht hvm hw hB hz1 hk1 hS1 => ?_)
  subst hw
  rw [ht] at hB
  exact kk H1 locs1 hB hS1
def f_yX6_logged (M : Mem) (x1 : Int32) (x2 : Int32) : Option (Int32) := (if x1 < 0 then (some (-4)) else (if 60 ≤ x1 then (some (-4)) else (if (M 4 0 2) ≤ x1 then (some (-4)) else (if x2 < 0 then (some (-4)) else (if x2 < 3 then ob1 (f_yJ9_floorMod_7cf53 (((M 4 0 2) - 1) - x1) 60) (fun r7 => gd (¬ (((r7 * 3) + x2) < 0 ∨ 180 ≤ ((r7 * 3) + x2).toNatClampNeg)) ((some (M 13 0 ((r7 * 3) + x2).toNatClampNeg)))) else (some (-4)))))))
set_option maxRecDepth 100000 in
set_option maxHeartbeats 4000000 in
theorem c_yX6_logged (l : Launch) (E : Lay) (ad : Nat → Nat → Nat) (M N : Mem) (x1 : Int32) (x2 : Int32) (r : Int32) (hf : f_yX6_logged M x1 x2 = some r) : Met l yX6_logged (Cond.code yX6_logged cX6_logged 3 (some .int) :: TB) (rmm 1 22) (va_Pc [.ref (ad 4 0), .int x1, .int x2] (PB E ad (M, N))) (Qi E ad r (M, N)) 0 0 (ow E) := by
  refine Met.ofW (cc := cX6_logged) (maxL := 3) (ret := (some .int)) (by decide) rfl ?_
  intro p e s m args below meth c s₁ B hml hv
  obtain ⟨rfl, hW, hK, hZ⟩ := hv
  have hT : ∀ w ∈ TB, w.before _ s = true := fun w h => atoms_spec (ws := (Cond.code yX6_logged cX6_logged 3 (some .int) :: TB)) B.pre w (List.mem_cons_of_mem _ h)
  have X : CX p s m _ meth c cX6_logged 3 (some .int) RX6 := ⟨B.exec, B.bytes, hml, findClass_of_methodNamed B.named, hT, B.returns, B.notSynchronized⟩
  obtain ⟨hx, hb, hml, hown, hT, hr, hlk⟩ := id X
  have hS : va_S (ow E) s.heap s.heap [] := va_S.rf
  have hl := lv_entry ([.ref (ad 4 0), .int x1, .int x2]) (n := 3) (Nat.le_of_ble_eq_true rfl)
  rw [lg_entry_eq]
  generalize (lg_sl ([.ref (ad 4 0), .int x1, .int x2]) ++ List.replicate (3 - (lg_sl ([.ref (ad 4 0), .int x1, .int x2])).length) Slot.unset).toArray = ls at hl ⊢
  have hl : lv_has ls 3 [(0, .ref (ad 4 0)), (1, .int x1), (2, .int x2)] := hl
  unfold f_yX6_logged at hf
  refine lv_iload_n hx hb dX6_logged_0 rfl (lv_at hl 1 rfl) ?_
  refine lv_if_lt (tgt := 27) hx hb dX6_logged_1 (by decide) (fun c1 => ?_) (fun c1 => ?_)
  · rw [if_pos c1] at hf
    refine lv_bipush (v := -4) hx hb dX6_logged_27 (by decide) ?_
    obtain rfl := sp1 hf
    exact e_i ⟨hx, hb, hr, hlk⟩ hW hS dX6_logged_29
  · rw [if_neg c1] at hf
    refine lv_iload_n hx hb dX6_logged_4 rfl (lv_at hl 1 rfl) ?_
    refine lv_bipush (v := 60) hx hb dX6_logged_5 (by decide) ?_
    refine lv_icmp_ge (tgt := 27) hx hb dX6_logged_7 (by decide) (fun c2 => ?_) (fun c2 => ?_)
    · rw [if_pos c2] at hf
      refine lv_bipush (v := -4) hx hb dX6_logged_27 (by decide) ?_
      obtain rfl := sp1 hf
      exact e_i ⟨hx, hb, hr, hlk⟩ hW hS dX6_logged_29
    · rw [if_neg c2] at hf
      refine lv_iload_n hx hb dX6_logged_10 rfl (lv_at hl 1 rfl) ?_
      refine lv_aload_n hx hb dX6_logged_11 rfl (lv_at hl 0 rfl) ?_
      refine g_6_4 X hK hW flRX6_25 dX6_logged_12 ?_
      refine lv_icmp_ge (tgt := 27) hx hb dX6_logged_15 (by decide) (fun c3 => ?_) (fun c3 => ?_)
      · rw [if_pos c3] at hf
        refine lv_bipush (v := -4) hx hb dX6_logged_27 (by decide) ?_
        obtain rfl := sp1 hf
        exact e_i ⟨hx, hb, hr, hlk⟩ hW hS dX6_logged_29
      · rw [if_neg c3] at hf
        refine lv_iload_n hx hb dX6_logged_18 rfl (lv_at hl 2 rfl) ?_
        refine lv_if_lt (tgt := 27) hx hb dX6_logged_19 (by decide) (fun c4 => ?_) (fun c4 => ?_)
        · rw [if_pos c4] at hf
          refine lv_bipush (v := -4) hx hb dX6_logged_27 (by decide) ?_
          obtain rfl := sp1 hf
          exact e_i ⟨hx, hb, hr, hlk⟩ hW hS dX6_logged_29
        · rw [if_neg c4] at hf
          refine lv_iload_n hx hb dX6_logged_22 rfl (lv_at hl 2 rfl) ?_
          refine lv_iconst (v := 3) hx hb dX6_logged_23 (by decide) ?_
          refine lv_icmp_lt (tgt := 30) hx hb dX6_logged_24 (by decide) (fun c5 => ?_) (fun c5 => ?_)
          · rw [if_pos c5] at hf
            refine lv_aload_n hx hb dX6_logged_30 rfl (lv_at hl 0 rfl) ?_
            refine g_6_1 X hK hW flRX6_15 dX6_logged_31 ?_
            refine lv_aload_n hx hb dX6_logged_34 rfl (lv_at hl 0 rfl) ?_
            refine g_6_4 X hK hW flRX6_25 dX6_logged_35 ?_
            refine lv_iconst (v := 1) hx hb dX6_logged_38 (by decide) ?_
            refine lv_isub hx hb dX6_logged_39 ?_
            refine lv_iload_n hx hb dX6_logged_40 rfl (lv_at hl 1 rfl) ?_
            refine lv_isub hx hb dX6_logged_41 ?_
            refine lv_bipush (v := 60) hx hb dX6_logged_42 (by decide) ?_
            obtain ⟨r7, h6, hf⟩ := ob1_some hf
            refine k_yJ9_floorMod_7cf53 X hK hZ hW hS hl.1 h6 mlRX6_28 ⟨Nat.le_of_ble_eq_true rfl, Nat.le_of_ble_eq_true rfl⟩ ⟨Nat.le_of_ble_eq_true rfl, Nat.le_of_ble_eq_true rfl⟩ (Nat.le_of_ble_eq_true rfl) dX6_logged_44 (fun H locs hW hS => ?_)
            refine lv_iconst (v := 3) hx hb dX6_logged_47 (by decide) ?_
            refine lv_imul hx hb dX6_logged_48 ?_
            refine lv_iload_n hx hb dX6_logged_49 rfl (lv_at hl 2 rfl) ?_
            refine lv_iadd hx hb dX6_logged_50 ?_
            obtain ⟨b8, hf⟩ := gd_some hf
            refine al_13 X hK hW b8 dX6_logged_51 ?_
            obtain rfl := sp1 hf
            exact e_i ⟨hx, hb, hr, hlk⟩ hW hS dX6_logged_52
          · rw [if_neg c5] at hf
            refine lv_bipush (v := -4) hx hb dX6_logged_27 (by decide) ?_
            obtain rfl := sp1 hf
            exact e_i ⟨hx, hb, hr, hlk⟩ hW hS dX6_logged_29
set_option maxRecDepth 100000 in
set_option maxHeartbeats 4000000 in
theorem k_yX6_logged {p : Program} {l : Launch} {e : Env} {R : Room} {s : State} {m : MethodId} {args : Array Value} {below : List Frame} {meth : Method} {c : Code} {H : Heap} {locs : List Loc} {cells slots : Nat} {Q : State → Prop} {cc : ByteArray} {pc nL index : Nat} {ret : Option FieldType} {own : String} {ls : Array Slot} {rest : List Value} {E : Lay} {ad : Nat → Nat → Nat} {M N : Mem} (X : CX p s m args meth c cc nL ret own) (hK : KK E s) (hZ : ZZ E s) (hW : WD E ad (M, N) H) (hS : va_S (ow E) s.heap H locs) (hsz : ls.size = nL) {x1 : Int32} {x2 : Int32} {r : Int32} (hf : f_yX6_logged M x1 x2 = some r) (hn : Cond.methodLink own index yX6_logged ∈ TB) (hR : 1 + 1 ≤ R.frames ∧ 8 + (3 + 11) + 22 ≤ R.locals) (hC : cells ≤ R.cells ∧ slots ≤ R.slots) (h8 : (rest.map fun v => v.category).sum ≤ 8) (hdg : decode cc pc = .ok (.invokevirtual index, 3)) (kk : ∀ (H1 : Heap) (locs1 : List Loc), WD E ad (M, N) H1 → va_S (ow E) s.heap H1 locs1 → W p l e R s m args below meth c H1 locs1 cells slots Q (F0 m (pc + 3) ls (.int r :: rest))) : W p l e R s m args below meth c H locs cells slots Q (F0 m pc ls (.int x2 :: .int x1 :: .ref (ad 4 0) :: rest)) := by
  refine va_calli (va_runV (C := RX6) (As := [.int x1, .int x2]) (rest := rest) ⟨X.1, X.2.1, X.2.2.1, X.2.2.2.1, X.2.2.2.2.1⟩ (c_yX6_logged l E ad M N x1 x2 r hf) (cwV 2 X.2.2.2.2.1 (gV hn im_yX6_logged se_yX6_logged iniRX6 cd_yX6_logged) rfl rfl rfl (by decide +kernel) hR) ⟨fun a U g mk q => ⟨q.1, q.2.calling⟩, va_recv hK.1 (hW.at (c := 4) (i := 0) Nat.zero_lt_one rfl) (ci := 6) (q0 := 0) rfl rfl, fun U hU hw => ⟨rfl, PB.at hW hK hZ hS hU hw⟩⟩ rfl rfl hsz rfl (lv_room h8) hdg hC) hS (fun _ _ h => h) (fun _ h => h) (fun r' u t H1 locs1 ht hvm hw hB hz1 hk1 hS1 => ?_)
  obtain ⟨rfl, rfl⟩ := hw
  rw [ht] at hB
  exact kk H1 locs1 hB hS1
