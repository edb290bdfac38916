def f_yJ9_max_7cf53 (x0 : Int32) (x1 : Int32) : Option (Int32) := (if x0 < x1 then (some x1) else (some x0))
set_option maxRecDepth 100000 in
set_option maxHeartbeats 4000000 in
theorem c_yJ9_max_7cf53 (l : Launch) (E : Lay) (ad : Nat → Nat → Nat) (M N : Mem) (x0 : Int32) (x1 : Int32) (r : Int32) (hf : f_yJ9_max_7cf53 x0 x1 = some r) : Met l yJ9_max_7cf53 (Cond.code yJ9_max_7cf53 cJ9_max_7cf53 2 (some .int) :: TB) (rmm 0 0) (va_Pc [.int x0, .int x1] (PB E ad (M, N))) (Qi E ad r (M, N)) 0 0 (ow E) := by
  refine Met.ofF (cc := cJ9_max_7cf53) (maxL := 2) (ret := (some .int)) (by decide +kernel) rfl ?_
  intro p e s m args below meth c s₁ B hml hv
  obtain ⟨rfl, hW, hK, hZ⟩ := hv
  have hT : ∀ w ∈ TB, w.before _ s = true := fun w h => atoms_spec (ws := (Cond.code yJ9_max_7cf53 cJ9_max_7cf53 2 (some .int) :: TB)) B.pre w (List.mem_cons_of_mem _ h)
  have X : CX p s m _ meth c cJ9_max_7cf53 2 (some .int) RJ9 := ⟨B.exec, B.bytes, hml, findClass_of_methodNamed B.named, hT, B.returns, B.notSynchronized⟩
  obtain ⟨hx, hb, hml, hown, hT, hr, hlk⟩ := id X
  have hS : va_S (ow E) s.heap s.heap [] := va_S.rf
  have hl := lv_entry ([.int x0, .int x1]) (n := 2) (Nat.le_of_ble_eq_true rfl)
  rw [lg_entry_eq]
  generalize (lg_sl ([.int x0, .int x1]) ++ List.replicate (2 - (lg_sl ([.int x0, .int x1])).length) Slot.unset).toArray = ls at hl ⊢
  have hl : lv_has ls 2 [(0, .int x0), (1, .int x1)] := hl
  unfold f_yJ9_max_7cf53 at hf
  refine lv_iload_n hx hb dJ9_max_7cf53_0 rfl (lv_at hl 0 rfl) ?_
  refine lv_iload_n hx hb dJ9_max_7cf53_1 rfl (lv_at hl 1 rfl) ?_
  refine lv_icmp_lt (tgt := 9) hx hb dJ9_max_7cf53_2 (by decide) (fun c1 => ?_) (fun c1 => ?_)
  · rw [if_pos c1] at hf
    refine lv_iload_n hx hb dJ9_max_7cf53_9 rfl (lv_at hl 1 rfl) ?_
    obtain rfl := sp1 hf
    exact e_i ⟨hx, hb, hr, hlk⟩ hW hS dJ9_max_7cf53_10
  · rw [if_neg c1] at hf
    refine lv_iload_n hx hb dJ9_max_7cf53_5 rfl (lv_at hl 0 rfl) ?_
    refine lv_goto (tgt := 10) hx hb dJ9_max_7cf53_6 (by decide) ?_
    obtain rfl := sp1 hf
    exact e_i ⟨hx, hb, hr, hlk⟩ hW hS dJ9_max_7cf53_10
set_option maxRecDepth 100000 in
set_option maxHeartbeats 4000000 in
theorem k_yJ9_max_7cf53 {p : Program} {l : Launch} {e : Env} {R : Room} {s : State} {m : MethodId} {args : Array Value} {below : List Frame} {meth : Method} {c : Code} {H : Heap} {locs : List Loc} {cells slots : Nat} {Q : State → Prop} {cc : ByteArray} {pc nL index : Nat} {ret : Option FieldType} {own : String} {ls : Array Slot} {rest : List Value} {E : Lay} {ad : Nat → Nat → Nat} {M N : Mem} (X : CX p s m args meth c cc nL ret own) (hK : KK E s) (hZ : ZZ E s) (hW : WD E ad (M, N) H) (hS : va_S (ow E) s.heap H locs) (hsz : ls.size = nL) {x0 : Int32} {x1 : Int32} {r : Int32} (hf : f_yJ9_max_7cf53 x0 x1 = some r) (hn : Cond.methodLink own index yJ9_max_7cf53 ∈ TB) (hR : 0 + 1 ≤ R.frames ∧ 8 + (2 + 11) + 0 ≤ R.locals) (hC : cells ≤ R.cells ∧ slots ≤ R.slots) (h8 : (rest.map fun v => v.category).sum ≤ 8) (hdg : decode cc pc = .ok (.invokestatic index, 3)) (kk : ∀ (H1 : Heap) (locs1 : List Loc), WD E ad (M, N) H1 → va_S (ow E) s.heap H1 locs1 → W p l e R s m args below meth c H1 locs1 cells slots Q (F0 m (pc + 3) ls (.int r :: rest))) : W p l e R s m args below meth c H locs cells slots Q (F0 m pc ls (.int x1 :: .int x0 :: rest)) := by
  refine va_calli (va_runS (As := [.int x0, .int x1]) (rest := rest) ⟨X.1, X.2.1, X.2.2.1, X.2.2.2.1, X.2.2.2.2.1⟩ (c_yJ9_max_7cf53 l E ad M N x0 x1 r hf) (va_cwS 2 X.2.2.2.2.1 (gS hn im_yJ9_max_7cf53 iniRJ9 cd_yJ9_max_7cf53) rfl rfl rfl (by decide +kernel) hR) ⟨fun a U g mk q => ⟨q.1, q.2.calling⟩, fun U hU hw => ⟨rfl, PB.at hW hK hZ hS hU hw⟩⟩ rfl rfl hsz rfl (lv_room h8) hdg hC) hS (fun _ _ h => h) (fun _ h => h) (fun r' u t H1 locs1 ht hvm hw hB hz1 hk1 hS1 => ?_)
  obtain ⟨rfl, rfl⟩ := hw
  rw [ht] at hB
  exact kk H1 locs1 hB hS1
def f_yJ9_min_7cf53 (x0 : Int32) (x1 : Int32) : Option (Int32) := (if x1 < x0 then (some x1) else (some x0))
set_option maxRecDepth 100000 in
set_option maxHeartbeats 4000000 in
theorem c_yJ9_min_7cf53 (l : Launch) (E : Lay) (ad : Nat → Nat → Nat) (M N : Mem) (x0 : Int32) (x1 : Int32) (r : Int32) (hf : f_yJ9_min_7cf53 x0 x1 = some r) : Met l yJ9_min_7cf53 (Cond.code yJ9_min_7cf53 cJ9_min_7cf53 2 (some .int) :: TB) (rmm 0 0) (va_Pc [.int x0, .int x1] (PB E ad (M, N))) (Qi E ad r (M, N)) 0 0 (ow E) := by
  refine Met.ofF (cc := cJ9_min_7cf53) (maxL := 2) (ret := (some .int)) (by decide +kernel) rfl ?_
  intro p e s m args below meth c s₁ B hml hv
  obtain ⟨rfl, hW, hK, hZ⟩ := hv
  have hT : ∀ w ∈ TB, w.before _ s = true := fun w h => atoms_spec (ws := (Cond.code yJ9_min_7cf53 cJ9_min_7cf53 2 (some .int) :: TB)) B.pre w (List.mem_cons_of_mem _ h)
  have X : CX p s m _ meth c cJ9_min_7cf53 2 (some .int) RJ9 := ⟨B.exec, B.bytes, hml, findClass_of_methodNamed B.named, hT, B.returns, B.notSynchronized⟩
  obtain ⟨hx, hb, hml, hown, hT, hr, hlk⟩ := id X
  have hS : va_S (ow E) s.heap s.heap [] := va_S.rf
  have hl := lv_entry ([.int x0, .int x1]) (n := 2) (Nat.le_of_ble_eq_true rfl)
  rw [lg_entry_eq]
  generalize (lg_sl ([.int x0, .int x1]) ++ List.replicate (2 - (lg_sl ([.int x0, .int x1])).length) Slot.unset).toArray = ls at hl ⊢
  have hl : lv_has ls 2 [(0, .int x0), (1, .int x1)] := hl
  unfold f_yJ9_min_7cf53 at hf
  refine lv_iload_n hx hb dJ9_min_7cf53_0 rfl (lv_at hl 0 rfl) ?_
  refine lv_iload_n hx hb dJ9_min_7cf53_1 rfl (lv_at hl 1 rfl) ?_
  refine lv_icmp_gt (tgt := 9) hx hb dJ9_min_7cf53_2 (by decide) (fun c1 => ?_) (fun c1 => ?_)
  · rw [if_pos c1] at hf
    refine lv_iload_n hx hb dJ9_min_7cf53_9 rfl (lv_at hl 1 rfl) ?_
    obtain rfl := sp1 hf
    exact e_i ⟨hx, hb, hr, hlk⟩ hW hS dJ9_min_7cf53_10
  · rw [if_neg c1] at hf
    refine lv_iload_n hx hb dJ9_min_7cf53_5 rfl (lv_at hl 0 rfl) ?_
    refine lv_goto (tgt := 10) hx hb dJ9_min_7cf53_6 (by decide) ?_
    obtain rfl := sp1 hf
    exact e_i ⟨hx, hb, hr, hlk⟩ hW hS dJ9_min_7cf53_10
set_option maxRecDepth 100000 in
set_option maxHeartbeats 4000000 in
theorem k_yJ9_min_7cf53 {p : Program} {l : Launch} {e : Env} {R : Room} {s : State} {m : MethodId} {args : Array Value} {below : List Frame} {meth : Method} {c : Code} {H : Heap} {locs : List Loc} {cells slots : Nat} {Q : State → Prop} {cc : ByteArray} {pc nL index : Nat} {ret : Option FieldType} {own : String} {ls : Array Slot} {rest : List Value} {E : Lay} {ad : Nat → Nat → Nat} {M N : Mem} (X : CX p s m args meth c cc nL ret own) (hK : KK E s) (hZ : ZZ E s) (hW : WD E ad (M, N) H) (hS : va_S (ow E) s.heap H locs) (hsz : ls.size = nL) {x0 : Int32} {x1 : Int32} {r : Int32} (hf : f_yJ9_min_7cf53 x0 x1 = some r) (hn : Cond.methodLink own index yJ9_min_7cf53 ∈ TB) (hR : 0 + 1 ≤ R.frames ∧ 8 + (2 + 11) + 0 ≤ R.locals) (hC : cells ≤ R.cells ∧ slots ≤ R.slots) (h8 : (rest.map fun v => v.category).sum ≤ 8) (hdg : decode cc pc = .ok (.invokestatic index, 3)) (kk : ∀ (H1 : Heap) (locs1 : List Loc), WD E ad (M, N) H1 → va_S (ow E) s.heap H1 locs1 → W p l e R s m args below meth c H1 locs1 cells slots Q (F0 m (pc + 3) ls (.int r :: rest))) : W p l e R s m args below meth c H locs cells slots Q (F0 m pc ls (.int x1 :: .int x0 :: rest)) := by
  refine va_calli (va_runS (As := [.int x0, .int x1]) (rest := rest) ⟨X.1, X.2.1, X.2.2.1, X.2.2.2.1, X.2.2.2.2.1⟩ (c_yJ9_min_7cf53 l E ad M N x0 x1 r hf) (va_cwS 2 X.2.2.2.2.1 (gS hn im_yJ9_min_7cf53 iniRJ9 cd_yJ9_min_7cf53) rfl rfl rfl (by decide +kernel) hR) ⟨fun a U g mk q => ⟨q.1, q.2.calling⟩, fun U hU hw => ⟨rfl, PB.at hW hK hZ hS hU hw⟩⟩ rfl rfl hsz rfl (lv_room h8) hdg hC) hS (fun _ _ h => h) (fun _ h => h) (fun r' u t H1 locs1 ht hvm hw hB hz1 hk1 hS1 => ?_)
  obtain ⟨rfl, rfl⟩ := hw
  rw [ht] at hB
  exact kk H1 locs1 hB hS1
def f_yX8_of (M : Mem) (x1 : Int32) (x2 : Int32) : Option (Int32) := ob1 (f_yX4_at M x1) (fun r2 => om r2 ((some (-1))) (fun j3 => (if x2 = 0 then gd (j3 < (M 60 0 1).toNatClampNeg) ((some (M 8 j3 0))) else (if x2 = 1 then gd (j3 < (M 60 0 1).toNatClampNeg) (ob1 (f_yX7_isRow M j3) (fun r9 => (if r9 = 0 then (some (M 8 j3 1)) else (some (nI (M 8 j3 4).toNatClampNeg))))) else (if x2 = 2 then gd (j3 < (M 60 0 1).toNatClampNeg) ((some (M 8 j3 2))) else (if x2 = 3 then gd (j3 < (M 60 0 1).toNatClampNeg) ((some (M 8 j3 3))) else (if x2 = 4 then gd (j3 < (M 60 0 1).toNatClampNeg) (ob1 (f_yX1_howMany M 3 (nI j3)) (fun r18 => (some r18))) else (if x2 = 5 then gd (j3 < (M 60 0 1).toNatClampNeg) (ob1 (f_yX1_howMany M 4 (nI j3)) (fun r22 => (some r22))) else (some (-1))))))))))
set_option maxRecDepth 100000 in
set_option maxHeartbeats 4000000 in
theorem c_yX8_of (l : Launch) (E : Lay) (ad : Nat → Nat → Nat) (M N : Mem) (x1 : Int32) (x2 : Int32) (r : Int32) (hf : f_yX8_of M x1 x2 = some r) : Met l yX8_of (Cond.code yX8_of cX8_of 4 (some .int) :: TB) (rmm 1 27) (va_Pc [.ref (ad 0 0), .int x1, .int x2] (PB E ad (M, N))) (Qi E ad r (M, N)) 0 0 (ow E) := by
  refine Met.ofW (cc := cX8_of) (maxL := 4) (ret := (some .int)) (by decide) rfl ?_
  intro p e s m args below meth c s₁ B hml hv
  obtain ⟨rfl, hW, hK, hZ⟩ := hv
  have hT : ∀ w ∈ TB, w.before _ s = true := fun w h => atoms_spec (ws := (Cond.code yX8_of cX8_of 4 (some .int) :: TB)) B.pre w (List.mem_cons_of_mem _ h)
  have X : CX p s m _ meth c cX8_of 4 (some .int) RX8 := ⟨B.exec, B.bytes, hml, findClass_of_methodNamed B.named, hT, B.returns, B.notSynchronized⟩
  obtain ⟨hx, hb, hml, hown, hT, hr, hlk⟩ := id X
  have hS : va_S (ow E) s.heap s.heap [] := va_S.rf
  have hl := lv_entry ([.ref (ad 0 0), .int x1, .int x2]) (n := 4) (Nat.le_of_ble_eq_true rfl)
  rw [lg_entry_eq]
  generalize (lg_sl ([.ref (ad 0 0), .int x1, .int x2]) ++ List.replicate (4 - (lg_sl ([.ref (ad 0 0), .int x1, .int x2])).length) Slot.unset).toArray = ls at hl ⊢
  have hl : lv_has ls 4 [(0, .ref (ad 0 0)), (1, .int x1), (2, .int x2)] := hl
  unfold f_yX8_of at hf
  refine lv_aload_n hx hb dX8_of_0 rfl (lv_at hl 0 rfl) ?_
  refine g_8_0 X hK hW flRX8_10 dX8_of_1 ?_
  refine lv_iload_n hx hb dX8_of_4 rfl (lv_at hl 1 rfl) ?_
  obtain ⟨r2, h1, hf⟩ := ob1_some hf
  rcases r2 with _ | j3
  · rw [om_n] at hf
    refine k_yX4_atn X hK hZ hW hS hl.1 h1 mlRX8_60 ⟨Nat.le_of_ble_eq_true rfl, Nat.le_of_ble_eq_true rfl⟩ ⟨Nat.le_of_ble_eq_true rfl, Nat.le_of_ble_eq_true rfl⟩ (Nat.le_of_ble_eq_true rfl) dX8_of_5 (fun H locs hW hS => ?_)
    refine lv_astore_nN (lv' := [(3, .null), (0, .ref (ad 0 0)), (1, .int x1), (2, .int x2)]) hx hb dX8_of_8 rfl hl (by decide) rfl (fun ls hl => ?_)
    refine lv_aload_nN hx hb dX8_of_9 rfl (lv_at hl 0 rfl) ?_
    refine lv_ifnonnullN hx hb dX8_of_10 ?_
    refine lv_iconst (v := -1) hx hb dX8_of_13 (by decide) ?_
    obtain rfl := sp1 hf
    exact e_i ⟨hx, hb, hr, hlk⟩ hW hS dX8_of_14
  · rw [om_s] at hf
    refine k_yX4_ats X hK hZ hW hS hl.1 h1 mlRX8_60 ⟨Nat.le_of_ble_eq_true rfl, Nat.le_of_ble_eq_true rfl⟩ ⟨Nat.le_of_ble_eq_true rfl, Nat.le_of_ble_eq_true rfl⟩ (Nat.le_of_ble_eq_true rfl) dX8_of_5 (fun H locs hW hS => ?_)
    refine lv_astore_n (lv' := [(3, .ref (ad 8 j3)), (0, .ref (ad 0 0)), (1, .int x1), (2, .int x2)]) hx hb dX8_of_8 rfl hl (by decide) rfl (fun ls hl => ?_)
    refine lv_aload_n hx hb dX8_of_9 rfl (lv_at hl 0 rfl) ?_
    refine lv_ifnonnull (tgt := 15) hx hb dX8_of_10 (by decide) ?_
    refine lv_iload_n hx hb dX8_of_15 rfl (lv_at hl 3 rfl) ?_
    by_cases c4 : x2 = 0
    · rw [if_pos c4] at hf
      refine lv_tableIn (tgt := 56) hx hb dX8_of_16 (by rw [c4]; decide) (by rw [c4]; decide) (by rw [c4]; rfl) (by decide) ?_
      refine lv_aload_n hx hb dX8_of_56 rfl (lv_at hl 0 rfl) ?_
      obtain ⟨v5, hf⟩ := gd_some hf
      refine g_7_1 X hK hW v5 flRX8_64 dX8_of_57 ?_
      obtain rfl := sp1 hf
      exact e_i ⟨hx, hb, hr, hlk⟩ hW hS dX8_of_60
    rw [if_neg c4] at hf
    by_cases c6 : x2 = 1
    · rw [if_pos c6] at hf
      refine lv_tableIn (tgt := 61) hx hb dX8_of_16 (by rw [c6]; decide) (by rw [c6]; decide) (by rw [c6]; rfl) (by decide) ?_
      refine lv_aload_n hx hb dX8_of_61 rfl (lv_at hl 0 rfl) ?_
      obtain ⟨v7, hf⟩ := gd_some hf
      obtain ⟨r9, h8, hf⟩ := ob1_some hf
      refine k_yX7_isRow X hK hZ hW hS hl.1 v7 h8 mlRX8_69 ⟨Nat.le_of_ble_eq_true rfl, Nat.le_of_ble_eq_true rfl⟩ ⟨Nat.le_of_ble_eq_true rfl, Nat.le_of_ble_eq_true rfl⟩ (Nat.le_of_ble_eq_true rfl) dX8_of_62 (fun H locs hW hS => ?_)
      refine lv_if_eq (tgt := 76) hx hb dX8_of_65 (by decide) (fun c10 => ?_) (fun c10 => ?_)
      · rw [if_pos c10] at hf
        refine lv_aload_n hx hb dX8_of_76 rfl (lv_at hl 0 rfl) ?_
        refine g_7_3 X hK hW v7 flRX8_76 dX8_of_77 ?_
        obtain rfl := sp1 hf
        exact e_i ⟨hx, hb, hr, hlk⟩ hW hS dX8_of_80
      · rw [if_neg c10] at hf
        refine lv_aload_n hx hb dX8_of_68 rfl (lv_at hl 0 rfl) ?_
        refine g_7_2 X hK hW v7 flRX8_72 dX8_of_69 ?_
        refine an_19 X hK hW v7 dX8_of_72 ?_
        refine lv_goto (tgt := 80) hx hb dX8_of_73 (by decide) ?_
        obtain rfl := sp1 hf
        exact e_i ⟨hx, hb, hr, hlk⟩ hW hS dX8_of_80
    rw [if_neg c6] at hf
    by_cases c11 : x2 = 2
    · rw [if_pos c11] at hf
      refine lv_tableIn (tgt := 81) hx hb dX8_of_16 (by rw [c11]; decide) (by rw [c11]; decide) (by rw [c11]; rfl) (by decide) ?_
      refine lv_aload_n hx hb dX8_of_81 rfl (lv_at hl 0 rfl) ?_
      obtain ⟨v12, hf⟩ := gd_some hf
      refine g_7_4 X hK hW v12 flRX8_79 dX8_of_82 ?_
      obtain rfl := sp1 hf
      exact e_i ⟨hx, hb, hr, hlk⟩ hW hS dX8_of_85
    rw [if_neg c11] at hf
    by_cases c13 : x2 = 3
    · rw [if_pos c13] at hf
      refine lv_tableIn (tgt := 86) hx hb dX8_of_16 (by rw [c13]; decide) (by rw [c13]; decide) (by rw [c13]; rfl) (by decide) ?_
      refine lv_aload_n hx hb dX8_of_86 rfl (lv_at hl 0 rfl) ?_
      obtain ⟨v14, hf⟩ := gd_some hf
      refine g_7_5 X hK hW v14 flRX8_82 dX8_of_87 ?_
      obtain rfl := sp1 hf
      exact e_i ⟨hx, hb, hr, hlk⟩ hW hS dX8_of_90
    rw [if_neg c13] at hf
    by_cases c15 : x2 = 4
    · rw [if_pos c15] at hf
      refine lv_tableIn (tgt := 91) hx hb dX8_of_16 (by rw [c15]; decide) (by rw [c15]; decide) (by rw [c15]; rfl) (by decide) ?_
      refine lv_aload_n hx hb dX8_of_91 rfl (lv_at hl 1 rfl) ?_
      refine g_8_1 X hK hW flRX8_21 dX8_of_92 ?_
      refine lv_iconst (v := 3) hx hb dX8_of_95 (by decide) ?_
      refine lv_aload_n hx hb dX8_of_96 rfl (lv_at hl 0 rfl) ?_
      obtain ⟨v16, hf⟩ := gd_some hf
      refine g_7_0 X hK hW v16 flRX8_85 dX8_of_97 ?_
      obtain ⟨r18, h17, hf⟩ := ob1_some hf
      refine k_yX1_howMany X hK hZ hW hS hl.1 h17 mlRX8_88 ⟨Nat.le_of_ble_eq_true rfl, Nat.le_of_ble_eq_true rfl⟩ ⟨Nat.le_of_ble_eq_true rfl, Nat.le_of_ble_eq_true rfl⟩ (Nat.le_of_ble_eq_true rfl) dX8_of_100 (fun H locs hW hS => ?_)
      obtain rfl := sp1 hf
      exact e_i ⟨hx, hb, hr, hlk⟩ hW hS dX8_of_103
    rw [if_neg c15] at hf
    by_cases c19 : x2 = 5
    · rw [if_pos c19] at hf
      refine lv_tableIn (tgt := 104) hx hb dX8_of_16 (by rw [c19]; decide) (by rw [c19]; decide) (by rw [c19]; rfl) (by decide) ?_
      refine lv_aload_n hx hb dX8_of_104 rfl (lv_at hl 1 rfl) ?_
      refine g_8_1 X hK hW flRX8_21 dX8_of_105 ?_
      refine lv_iconst (v := 4) hx hb dX8_of_108 (by decide) ?_
      refine lv_aload_n hx hb dX8_of_109 rfl (lv_at hl 0 rfl) ?_
      obtain ⟨v20, hf⟩ := gd_some hf
      refine g_7_0 X hK hW v20 flRX8_85 dX8_of_110 ?_
      obtain ⟨r22, h21, hf⟩ := ob1_some hf
      refine k_yX1_howMany X hK hZ hW hS hl.1 h21 mlRX8_88 ⟨Nat.le_of_ble_eq_true rfl, Nat.le_of_ble_eq_true rfl⟩ ⟨Nat.le_of_ble_eq_true rfl, Nat.le_of_ble_eq_true rfl⟩ (Nat.le_of_ble_eq_true rfl) dX8_of_113 (fun H locs hW hS => ?_)
      obtain rfl := sp1 hf
      exact e_i ⟨hx, hb, hr, hlk⟩ hW hS dX8_of_116
    rw [if_neg c19] at hf
    refine lv_tableOut (tgt := 117) hx hb dX8_of_16 (by have := lv_neT (a := 0) c4 (by decide); have := lv_neT (a := 1) c6 (by decide); have := lv_neT (a := 2) c11 (by decide); have := lv_neT (a := 3) c13 (by decide); have := lv_neT (a := 4) c15 (by decide); have := lv_neT (a := 5) c19 (by decide); omega) (by decide) ?_
    refine lv_iconst (v := -1) hx hb dX8_of_117 (by decide) ?_
    obtain rfl := sp1 hf
    exact e_i ⟨hx, hb, hr, hlk⟩ hW hS dX8_of_118
set_option maxRecDepth 100000 in
set_option maxHeartbeats 4000000 in
theorem k_yX8_of {p : Program} {l : Launch} {e : Env} {R : Room} {s : State} {m : MethodId} {args : Array Value} {below : List Frame} {meth : Method} {c : Code} {H : Heap} {locs : List Loc} {cells slots : Nat} {Q : State → Prop} {cc : ByteArray} {pc nL index : Nat} {ret : Option FieldType} {own : String} {ls : Array Slot} {rest : List Value} {E : Lay} {ad : Nat → Nat → Nat} {M N : Mem} (X : CX p s m args meth c cc nL ret own) (hK : KK E s) (hZ : ZZ E s) (hW : WD E ad (M, N) H) (hS : va_S (ow E) s.heap H locs) (hsz : ls.size = nL) {x1 : Int32} {x2 : Int32} {r : Int32} (hf : f_yX8_of M x1 x2 = some r) (hn : Cond.methodLink own index yX8_of ∈ TB) (hR : 1 + 1 ≤ R.frames ∧ 8 + (4 + 11) + 27 ≤ R.locals) (hC : cells ≤ R.cells ∧ slots ≤ R.slots) (h8 : (rest.map fun v => v.category).sum ≤ 8) (hdg : decode cc pc = .ok (.invokevirtual index, 3)) (kk : ∀ (H1 : Heap) (locs1 : List Loc), WD E ad (M, N) H1 → va_S (ow E) s.heap H1 locs1 → W p l e R s m args below meth c H1 locs1 cells slots Q (F0 m (pc + 3) ls (.int r :: rest))) : W p l e R s m args below meth c H locs cells slots Q (F0 m pc ls (.int x2 :: .int x1 :: .ref (ad 0 0) :: rest)) := by
  refine va_calli (va_runV (C := RX8) (As := [.int x1, .int x2]) (rest := rest) ⟨X.1, X.2.1, X.2.2.1, X.2.2.2.1, X.2.2.2.2.1⟩ (c_yX8_of l E ad M N x1 x2 r hf) (cwV 2 X.2.2.2.2.1 (gV hn im_yX8_of se_yX8_of iniRX8 cd_yX8_of) rfl rfl rfl (by decide +kernel) hR) ⟨fun a U g mk q => ⟨q.1, q.2.calling⟩, va_recv hK.1 (hW.at (c := 0) (i := 0) Nat.zero_lt_one rfl) (ci := 8) (q0 := 0) rfl rfl, fun U hU hw => ⟨rfl, PB.at hW hK hZ hS hU hw⟩⟩ rfl rfl hsz rfl (lv_room h8) hdg hC) hS (fun _ _ h => h) (fun _ h => h) (fun r' u t H1 locs1 ht hvm hw hB hz1 hk1 hS1 => ?_)
  obtain ⟨rfl, rfl⟩ := hw
  rw [ht] at hB
  exact kk H1 locs1 hB hS1
def f_yX8_item (M : Mem) (x1 : Int32) (x2 : Int32) : Option (Int32) := ob1 (f_yX4_at M x1) (fun r2 => om r2 ((some (-1))) (fun j3 => gd (j3 < (M 60 0 1).toNatClampNeg) (ob1 (f_yX7_hasPlace M j3 x2) (fun r6 => (if r6 = 0 then (some (-1)) else gd (¬ (x2 < 0 ∨ (M 8 j3 4).toNatClampNeg ≤ x2.toNatClampNeg)) ((some (M 19 j3 x2.toNatClampNeg))))))))
set_option maxRecDepth 100000 in
set_option maxHeartbeats 4000000 in
theorem c_yX8_item (l : Launch) (E : Lay) (ad : Nat → Nat → Nat) (M N : Mem) (x1 : Int32) (x2 : Int32) (r : Int32) (hf : f_yX8_item M x1 x2 = some r) : Met l yX8_item (Cond.code yX8_item cX8_item 4 (some .int) :: TB) (rmm 1 21) (va_Pc [.ref (ad 0 0), .int x1, .int x2] (PB E ad (M, N))) (Qi E ad r (M, N)) 0 0 (ow E) := by
  refine Met.ofW (cc := cX8_item) (maxL := 4) (ret := (some .int)) (by decide) rfl ?_
  intro p e s m args below meth c s₁ B hml hv
  obtain ⟨rfl, hW, hK, hZ⟩ := hv
  have hT : ∀ w ∈ TB, w.before _ s = true := fun w h => atoms_spec (ws := (Cond.code yX8_item cX8_item 4 (some .int) :: TB)) B.pre w (List.mem_cons_of_mem _ h)
  have X : CX p s m _ meth c cX8_item 4 (some .int) RX8 := ⟨B.exec, B.bytes, hml, findClass_of_methodNamed B.named, hT, B.returns, B.notSynchronized⟩
  obtain ⟨hx, hb, hml, hown, hT, hr, hlk⟩ := id X
  have hS : va_S (ow E) s.heap s.heap [] := va_S.rf
  have hl := lv_entry ([.ref (ad 0 0), .int x1, .int x2]) (n := 4) (Nat.le_of_ble_eq_true rfl)
  rw [lg_entry_eq]
  generalize (lg_sl ([.ref (ad 0 0), .int x1, .int x2]) ++ List.replicate (4 - (lg_sl ([.ref (ad 0 0), .int x1, .int x2])).length) Slot.unset).toArray = ls at hl ⊢
  have hl : lv_has ls 4 [(0, .ref (ad 0 0)), (1, .int x1), (2, .int x2)] := hl
  unfold f_yX8_item at hf
  refine lv_aload_n hx hb dX8_item_0 rfl (lv_at hl 0 rfl) ?_
  refine g_8_0 X hK hW flRX8_10 dX8_item_1 ?_
  refine lv_iload_n hx hb dX8_item_4 rfl (lv_at hl 1 rfl) ?_
  obtain ⟨r2, h1, hf⟩ := ob1_some hf
  rcases r2 with _ | j3
  · rw [om_n] at hf
    refine k_yX4_atn X hK hZ hW hS hl.1 h1 mlRX8_60 ⟨Nat.le_of_ble_eq_true rfl, Nat.le_of_ble_eq_true rfl⟩ ⟨Nat.le_of_ble_eq_true rfl, Nat.le_of_ble_eq_true rfl⟩ (Nat.le_of_ble_eq_true rfl) dX8_item_5 (fun H locs hW hS => ?_)
    refine lv_astore_nN (lv' := [(3, .null), (0, .ref (ad 0 0)), (1, .int x1), (2, .int x2)]) hx hb dX8_item_8 rfl hl (by decide) rfl (fun ls hl => ?_)
    refine lv_aload_nN hx hb dX8_item_9 rfl (lv_at hl 0 rfl) ?_
    refine lv_ifnullN (tgt := 21) hx hb dX8_item_10 (by decide) ?_
    refine lv_iconst (v := -1) hx hb dX8_item_21 (by decide) ?_
    refine lv_goto (tgt := 31) hx hb dX8_item_22 (by decide) ?_
    obtain rfl := sp1 hf
    exact e_i ⟨hx, hb, hr, hlk⟩ hW hS dX8_item_31
  · rw [om_s] at hf
    refine k_yX4_ats X hK hZ hW hS hl.1 h1 mlRX8_60 ⟨Nat.le_of_ble_eq_true rfl, Nat.le_of_ble_eq_true rfl⟩ ⟨Nat.le_of_ble_eq_true rfl, Nat.le_of_ble_eq_true rfl⟩ (Nat.le_of_ble_eq_true rfl) dX8_item_5 (fun H locs hW hS => ?_)
    refine lv_astore_n (lv' := [(3, .ref (ad 8 j3)), (0, .ref (ad 0 0)), (1, .int x1), (2, .int x2)]) hx hb dX8_item_8 rfl hl (by decide) rfl (fun ls hl => ?_)
    refine lv_aload_n hx hb dX8_item_9 rfl (lv_at hl 0 rfl) ?_
    refine lv_ifnull hx hb dX8_item_10 ?_
    refine lv_aload_n hx hb dX8_item_13 rfl (lv_at hl 0 rfl) ?_
    refine lv_iload_n hx hb dX8_item_14 rfl (lv_at hl 3 rfl) ?_
    obtain ⟨v4, hf⟩ := gd_some hf
    obtain ⟨r6, h5, hf⟩ := ob1_some hf
    refine k_yX7_hasPlace X hK hZ hW hS hl.1 v4 h5 mlRX8_91 ⟨Nat.le_of_ble_eq_true rfl, Nat.le_of_ble_eq_true rfl⟩ ⟨Nat.le_of_ble_eq_true rfl, Nat.le_of_ble_eq_true rfl⟩ (Nat.le_of_ble_eq_true rfl) dX8_item_15 (fun H locs hW hS => ?_)
    refine lv_if_ne (tgt := 25) hx hb dX8_item_18 (by decide) (fun c7 => ?_) (fun c7 => ?_)
    · rw [if_neg c7] at hf
      refine lv_aload_n hx hb dX8_item_25 rfl (lv_at hl 0 rfl) ?_
      refine g_7_2 X hK hW v4 flRX8_72 dX8_item_26 ?_
      refine lv_iload_n hx hb dX8_item_29 rfl (lv_at hl 3 rfl) ?_
      obtain ⟨b8, hf⟩ := gd_some hf
      refine al_19 X hK hW v4 b8 dX8_item_30 ?_
      obtain rfl := sp1 hf
      exact e_i ⟨hx, hb, hr, hlk⟩ hW hS dX8_item_31
    · rw [if_pos c7] at hf
      refine lv_iconst (v := -1) hx hb dX8_item_21 (by decide) ?_
      refine lv_goto (tgt := 31) hx hb dX8_item_22 (by decide) ?_
      obtain rfl := sp1 hf
      exact e_i ⟨hx, hb, hr, hlk⟩ hW hS dX8_item_31
set_option maxRecDepth 100000 in
set_option maxHeartbeats 4000000 in
theorem k_yX8_item {p : Program} {l : Launch} {e : Env} {R : Room} {s : State} {m : MethodId} {args : Array Value} {below : List Frame} {meth : Method} {c : Code} {H : Heap} {locs : List Loc} {cells slots : Nat} {Q : State → Prop} {cc : ByteArray} {pc nL index : Nat} {ret : Option FieldType} {own : String} {ls : Array Slot} {rest : List Value} {E : Lay} {ad : Nat → Nat → Nat} {M N : Mem} (X : CX p s m args meth c cc nL ret own) (hK : KK E s) (hZ : ZZ E s) (hW : WD E ad (M, N) H) (hS : va_S (ow E) s.heap H locs) (hsz : ls.size = nL) {x1 : Int32} {x2 : Int32} {r : Int32} (hf : f_yX8_item M x1 x2 = some r) (hn : Cond.methodLink own index yX8_item ∈ TB) (hR : 1 + 1 ≤ R.frames ∧ 8 + (4 + 11) + 21 ≤ R.locals) (hC : cells ≤ R.cells ∧ slots ≤ R.slots) (h8 : (rest.map fun v => v.category).sum ≤ 8) (hdg : decode cc pc = .ok (.invokevirtual index, 3)) (kk : ∀ (H1 : Heap) (locs1 : List Loc), WD E ad (M, N) H1 → va_S (ow E) s.heap H1 locs1 → W p l e R s m args below meth c H1 locs1 cells slots Q (F0 m (pc + 3) ls (.int r :: rest))) : W p l e R s m args below meth c H locs cells slots Q (F0 m pc ls (.int x2 :: .int x1 :: .ref (ad 0 0) :: rest)) := by
  refine va_calli (va_runV (C := RX8) (As := [.int x1, .int x2]) (rest := rest) ⟨X.1, X.2.1, X.2.2.1, X.2.2.2.1, X.2.2.2.2.1⟩ (c_yX8_item l E ad M N x1 x2 r hf) (cwV 2 X.2.2.2.2.1 (gV hn im_yX8_item se_yX8_item iniRX8 cd_yX8_item) rfl rfl rfl (by decide +kernel) hR) ⟨fun a U g mk q => ⟨q.1, q.2.calling⟩, va_recv hK.1 (hW.at (c := 0) (i := 0) Nat.zero_lt_one rfl) (ci := 8) (q0 := 0) rfl rfl, fun U hU hw => ⟨rfl, PB.at hW hK hZ hS hU hw⟩⟩ rfl rfl hsz rfl (lv_room h8) hdg hC) hS (fun _ _ h => h) (fun _ h => h) (fun r' u t H1 locs1 ht hvm hw hB hz1 hk1 hS1 => ?_)
  obtain ⟨rfl, rfl⟩ := hw
  rw [ht] at hB
  exact kk H1 locs1 hB hS1
def f_yX8_weigh (M : Mem) (x1 : Int32) : Option (Int32 × Mem) := ob1 (f_yX4_at M x1) (fun r2 => om r2 ((some ((-1), M))) (fun j3 => gd (j3 < (M 60 0 1).toNatClampNeg) (ob2 (f_yX4_weightOf M j3) (fun r6 M7 => (some (r6, M7))))))
set_option maxRecDepth 100000 in
set_option maxHeartbeats 4000000 in
theorem c_yX8_weigh (l : Launch) (E : Lay) (ad : Nat → Nat → Nat) (M N : Mem) (x1 : Int32) (r : Int32) (Mr : Mem) (hf : f_yX8_weigh M x1 = some (r, Mr)) : Met l yX8_weigh (Cond.code yX8_weigh cX8_weigh 3 (some .int) :: TB) (rmm 1 21) (va_Pc [.ref (ad 0 0), .int x1] (PB E ad (M, N))) (Qi E ad r (Mr, N)) 0 0 (ow E) := by
  refine Met.ofW (cc := cX8_weigh) (maxL := 3) (ret := (some .int)) (by decide) rfl ?_
  intro p e s m args below meth c s₁ B hml hv
  obtain ⟨rfl, hW, hK, hZ⟩ := hv
  have hT : ∀ w ∈ TB, w.before _ s = true := fun w h => atoms_spec (ws := (Cond.code yX8_weigh cX8_weigh 3 (some .int) :: TB)) B.pre w (List.mem_cons_of_mem _ h)
  have X : CX p s m _ meth c cX8_weigh 3 (some .int) RX8 := ⟨B.exec, B.bytes, hml, findClass_of_methodNamed B.named, hT, B.returns, B.notSynchronized⟩
  obtain ⟨hx, hb, hml, hown, hT, hr, hlk⟩ := id X
  have hS : va_S (ow E) s.heap s.heap [] := va_S.rf
  have hl := lv_entry ([.ref (ad 0 0), .int x1]) (n := 3) (Nat.le_of_ble_eq_true rfl)
  rw [lg_entry_eq]
  generalize (lg_sl ([.ref (ad 0 0), .int x1]) ++ List.replicate (3 - (lg_sl ([.ref (ad 0 0), .int x1])).length) Slot.unset).toArray = ls at hl ⊢
  have hl : lv_has ls 3 [(0, .ref (ad 0 0)), (1, .int x1)] := hl
  unfold f_yX8_weigh at hf
  refine lv_aload_n hx hb dX8_weigh_0 rfl (lv_at hl 0 rfl) ?_
  refine g_8_0 X hK hW flRX8_10 dX8_weigh_1 ?_
  refine lv_iload_n hx hb dX8_weigh_4 rfl (lv_at hl 1 rfl) ?_
  obtain ⟨r2, h1, hf⟩ := ob1_some hf
  rcases r2 with _ | j3
  · rw [om_n] at hf
    refine k_yX4_atn X hK hZ hW hS hl.1 h1 mlRX8_60 ⟨Nat.le_of_ble_eq_true rfl, Nat.le_of_ble_eq_true rfl⟩ ⟨Nat.le_of_ble_eq_true rfl, Nat.le_of_ble_eq_true rfl⟩ (Nat.le_of_ble_eq_true rfl) dX8_weigh_5 (fun H locs hW hS => ?_)
    refine lv_astore_nN (lv' := [(2, .null), (0, .ref (ad 0 0)), (1, .int x1)]) hx hb dX8_weigh_8 rfl hl (by decide) rfl (fun ls hl => ?_)
    refine lv_aload_nN hx hb dX8_weigh_9 rfl (lv_at hl 0 rfl) ?_
    refine lv_ifnonnullN hx hb dX8_weigh_10 ?_
    refine lv_iconst (v := -1) hx hb dX8_weigh_13 (by decide) ?_
    refine lv_goto (tgt := 25) hx hb dX8_weigh_14 (by decide) ?_
    obtain ⟨rfl, rfl⟩ := sp2 hf
    exact e_i ⟨hx, hb, hr, hlk⟩ hW hS dX8_weigh_25
  · rw [om_s] at hf
    refine k_yX4_ats X hK hZ hW hS hl.1 h1 mlRX8_60 ⟨Nat.le_of_ble_eq_true rfl, Nat.le_of_ble_eq_true rfl⟩ ⟨Nat.le_of_ble_eq_true rfl, Nat.le_of_ble_eq_true rfl⟩ (Nat.le_of_ble_eq_true rfl) dX8_weigh_5 (fun H locs hW hS => ?_)
    refine lv_astore_n (lv' := [(2, .ref (ad 8 j3)), (0, .ref (ad 0 0)), (1, .int x1)]) hx hb dX8_weigh_8 rfl hl (by decide) rfl (fun ls hl => ?_)
    refine lv_aload_n hx hb dX8_weigh_9 rfl (lv_at hl 0 rfl) ?_
    refine lv_ifnonnull (tgt := 17) hx hb dX8_weigh_10 (by decide) ?_
    refine lv_aload_n hx hb dX8_weigh_17 rfl (lv_at hl 1 rfl) ?_
    refine g_8_0 X hK hW flRX8_10 dX8_weigh_18 ?_
    refine lv_aload_n hx hb dX8_weigh_21 rfl (lv_at hl 0 rfl) ?_
    obtain ⟨v4, hf⟩ := gd_some hf
    obtain ⟨r6, M7, h5, hf⟩ := ob2_some hf
    refine k_yX4_weightOf X hK hZ hW hS hl.1 v4 h5 mlRX8_95 ⟨Nat.le_of_ble_eq_true rfl, Nat.le_of_ble_eq_true rfl⟩ ⟨Nat.le_of_ble_eq_true rfl, Nat.le_of_ble_eq_true rfl⟩ (Nat.le_of_ble_eq_true rfl) dX8_weigh_22 (fun H locs hW hS => ?_)
    obtain ⟨rfl, rfl⟩ := sp2 hf
    exact e_i ⟨hx, hb, hr, hlk⟩ hW hS dX8_weigh_25
set_option maxRecDepth 100000 in
set_option maxHeartbeats 4000000 in
theorem k_yX8_weigh {p : Program} {l : Launch} {e : Env} {R : Room} {s : State} {m : MethodId} {args : Array Value} {below : List Frame} {meth : Method} {c : Code} {H : Heap} {locs : List Loc} {cells slots : Nat} {Q : State → Prop} {cc : ByteArray} {pc nL index : Nat} {ret : Option FieldType} {own : String} {ls : Array Slot} {rest : List Value} {E : Lay} {ad : Nat → Nat → Nat} {M N : Mem} (X : CX p s m args meth c cc nL ret own) (hK : KK E s) (hZ : ZZ E s) (hW : WD E ad (M, N) H) (hS : va_S (ow E) s.heap H locs) (hsz : ls.size = nL) {x1 : Int32} {r : Int32} {Mr : Mem} (hf : f_yX8_weigh M x1 = some (r, Mr)) (hn : Cond.methodLink own index yX8_weigh ∈ TB) (hR : 1 + 1 ≤ R.frames ∧ 8 + (3 + 11) + 21 ≤ R.locals) (hC : cells ≤ R.cells ∧ slots ≤ R.slots) (h8 : (rest.map fun v => v.category).sum ≤ 8) (hdg : decode cc pc = .ok (.invokevirtual index, 3)) (kk : ∀ (H1 : Heap) (locs1 : List Loc), WD E ad (Mr, N) H1 → va_S (ow E) s.heap H1 locs1 → W p l e R s m args below meth c H1 locs1 cells slots Q (F0 m (pc + 3) ls (.int r :: rest))) : W p l e R s m args below meth c H locs cells slots Q (F0 m pc ls (.int x1 :: .ref (ad 0 0) :: rest)) := by
  refine va_calli (va_runV (C := RX8) (As := [.int x1]) (rest := rest) ⟨X.1, X.2.1, X.2.2.1, X.2.2.2.1, X.2.2.2.2.1⟩ (c_yX8_weigh l E ad M N x1 r Mr hf) (cwV 1 X.2.2.2.2.1 (gV hn im_yX8_weigh se_yX8_weigh iniRX8 cd_yX8_weigh) rfl rfl rfl (by decide +kernel) hR) ⟨fun a U g mk q => ⟨q.1, q.2.calling⟩, va_recv hK.1 (hW.at (c := 0) (i := 0) Nat.zero_lt_one rfl) (ci := 8) (q0 := 0) rfl rfl, fun U hU hw => ⟨rfl, PB.at hW hK hZ hS hU hw⟩⟩ rfl rfl hsz rfl (lv_room h8) hdg hC) hS (fun _ _ h => h) (fun _ h => h) (fun r' u t H1 locs1 ht hvm hw hB hz1 hk1 hS1 => ?_)
  obtain ⟨rfl, rfl⟩ := hw
  rw [ht] at hB
  exact kk H1 locs1 hB hS1
def f_yX8_set (M : Mem) (x1 : Int32) (x2 : Int32) (x3 : Int32) : Option (Int32 × Mem) := ob1 (f_yX1_at M x1) (fun r2 => om r2 ((some ((-1), M))) (fun j3 => gd (j3 < 6) ((if (M 6 j3 0) = 0 then (some ((-1), M)) else ob1 (f_yX8_isSlot x2) (fun r7 => (if r7 = 0 then (some ((-1), M)) else ob1 (f_yX5_keep M j3 x2 x3) (fun M10 => (some (1, M10)))))))))
set_option maxRecDepth 100000 in
set_option maxHeartbeats 4000000 in
theorem c_yX8_set (l : Launch) (E : Lay) (ad : Nat → Nat → Nat) (M N : Mem) (x1 : Int32) (x2 : Int32) (x3 : Int32) (r : Int32) (Mr : Mem) (hf : f_yX8_set M x1 x2 x3 = some (r, Mr)) : Met l yX8_set (Cond.code yX8_set cX8_set 5 (some .int) :: TB) (rmm 2 42) (va_Pc [.ref (ad 0 0), .int x1, .int x2, .int x3] (PB E ad (M, N))) (Qi E ad r (Mr, N)) 0 0 (ow E) := by
  refine Met.ofW (cc := cX8_set) (maxL := 5) (ret := (some .int)) (by decide) rfl ?_
  intro p e s m args below meth c s₁ B hml hv
  obtain ⟨rfl, hW, hK, hZ⟩ := hv
  have hT : ∀ w ∈ TB, w.before _ s = true := fun w h => atoms_spec (ws := (Cond.code yX8_set cX8_set 5 (some .int) :: TB)) B.pre w (List.mem_cons_of_mem _ h)
  have X : CX p s m _ meth c cX8_set 5 (some .int) RX8 := ⟨B.exec, B.bytes, hml, findClass_of_methodNamed B.named, hT, B.returns, B.notSynchronized⟩
  obtain ⟨hx, hb, hml, hown, hT, hr, hlk⟩ := id X
  have hS : va_S (ow E) s.heap s.heap [] := va_S.rf
  have hl := lv_entry ([.ref (ad 0 0), .int x1, .int x2, .int x3]) (n := 5) (Nat.le_of_ble_eq_true rfl)
  rw [lg_entry_eq]
  generalize (lg_sl ([.ref (ad 0 0), .int x1, .int x2, .int x3]) ++ List.replicate (5 - (lg_sl ([.ref (ad 0 0), .int x1, .int x2, .int x3])).length) Slot.unset).toArray = ls at hl ⊢
  have hl : lv_has ls 5 [(0, .ref (ad 0 0)), (1, .int x1), (2, .int x2), (3, .int x3)] := hl
  unfold f_yX8_set at hf
  refine lv_aload_n hx hb dX8_set_0 rfl (lv_at hl 0 rfl) ?_
  refine g_8_1 X hK hW flRX8_21 dX8_set_1 ?_
  refine lv_iload_n hx hb dX8_set_4 rfl (lv_at hl 1 rfl) ?_
  obtain ⟨r2, h1, hf⟩ := ob1_some hf
  rcases r2 with _ | j3
  · rw [om_n] at hf
    refine k_yX1_atn X hK hZ hW hS hl.1 h1 mlRX8_122 ⟨Nat.le_of_ble_eq_true rfl, Nat.le_of_ble_eq_true rfl⟩ ⟨Nat.le_of_ble_eq_true rfl, Nat.le_of_ble_eq_true rfl⟩ (Nat.le_of_ble_eq_true rfl) dX8_set_5 (fun H locs hW hS => ?_)
    refine lv_astoreN (lv' := [(4, .null), (0, .ref (ad 0 0)), (1, .int x1), (2, .int x2), (3, .int x3)]) hx hb dX8_set_8 hl (by decide) rfl (fun ls hl => ?_)
    refine lv_aloadN hx hb dX8_set_10 (lv_at hl 0 rfl) ?_
    refine lv_ifnullN (tgt := 30) hx hb dX8_set_12 (by decide) ?_
    refine lv_iconst (v := -1) hx hb dX8_set_30 (by decide) ?_
    obtain ⟨rfl, rfl⟩ := sp2 hf
    exact e_i ⟨hx, hb, hr, hlk⟩ hW hS dX8_set_31
  · rw [om_s] at hf
    refine k_yX1_ats X hK hZ hW hS hl.1 h1 mlRX8_122 ⟨Nat.le_of_ble_eq_true rfl, Nat.le_of_ble_eq_true rfl⟩ ⟨Nat.le_of_ble_eq_true rfl, Nat.le_of_ble_eq_true rfl⟩ (Nat.le_of_ble_eq_true rfl) dX8_set_5 (fun H locs hW hS => ?_)
    refine lv_astore (lv' := [(4, .ref (ad 6 j3)), (0, .ref (ad 0 0)), (1, .int x1), (2, .int x2), (3, .int x3)]) hx hb dX8_set_8 hl (by decide) rfl (fun ls hl => ?_)
    refine lv_aload hx hb dX8_set_10 (lv_at hl 0 rfl) ?_
    refine lv_ifnull hx hb dX8_set_12 ?_
    refine lv_aload hx hb dX8_set_15 (lv_at hl 0 rfl) ?_
    obtain ⟨v4, hf⟩ := gd_some hf
    refine g_5_4 X hK hW v4 flRX8_134 dX8_set_17 ?_
    refine lv_if_eq (tgt := 30) hx hb dX8_set_20 (by decide) (fun c5 => ?_) (fun c5 => ?_)
    · rw [if_pos c5] at hf
      refine lv_iconst (v := -1) hx hb dX8_set_30 (by decide) ?_
      obtain ⟨rfl, rfl⟩ := sp2 hf
      exact e_i ⟨hx, hb, hr, hlk⟩ hW hS dX8_set_31
    · rw [if_neg c5] at hf
      refine lv_iload_n hx hb dX8_set_23 rfl (lv_at hl 3 rfl) ?_
      obtain ⟨r7, h6, hf⟩ := ob1_some hf
      refine k_yX8_isSlot X hK hZ hW hS hl.1 h6 mlRX8_137 ⟨Nat.le_of_ble_eq_true rfl, Nat.le_of_ble_eq_true rfl⟩ ⟨Nat.le_of_ble_eq_true rfl, Nat.le_of_ble_eq_true rfl⟩ (Nat.le_of_ble_eq_true rfl) dX8_set_24 (fun H locs hW hS => ?_)
      refine lv_if_ne (tgt := 32) hx hb dX8_set_27 (by decide) (fun c8 => ?_) (fun c8 => ?_)
      · rw [if_neg c8] at hf
        refine lv_aload hx hb dX8_set_32 (lv_at hl 0 rfl) ?_
        refine lv_iload_n hx hb dX8_set_34 rfl (lv_at hl 3 rfl) ?_
        refine lv_iload_n hx hb dX8_set_35 rfl (lv_at hl 4 rfl) ?_
        obtain ⟨M10, h9, hf⟩ := ob1_some hf
        refine k_yX5_keep X hK hZ hW hS hl.1 v4 h9 mlRX8_140 ⟨Nat.le_of_ble_eq_true rfl, Nat.le_of_ble_eq_true rfl⟩ ⟨Nat.le_of_ble_eq_true rfl, Nat.le_of_ble_eq_true rfl⟩ (Nat.le_of_ble_eq_true rfl) dX8_set_36 (fun H locs hW hS => ?_)
        refine lv_iconst (v := 1) hx hb dX8_set_39 (by decide) ?_
        obtain ⟨rfl, rfl⟩ := sp2 hf
        exact e_i ⟨hx, hb, hr, hlk⟩ hW hS dX8_set_40
      · rw [if_pos c8] at hf
        refine lv_iconst (v := -1) hx hb dX8_set_30 (by decide) ?_
        obtain ⟨rfl, rfl⟩ := sp2 hf
        exact e_i ⟨hx, hb, hr, hlk⟩ hW hS dX8_set_31
set_option maxRecDepth 100000 in
set_option maxHeartbeats 4000000 in
theorem k_yX8_set {p : Program} {l : Launch} {e : Env} {R : Room} {s : State} {m : MethodId} {args : Array Value} {below : List Frame} {meth : Method} {c : Code} {H : Heap} {locs : List Loc} {cells slots : Nat} {Q : State → Prop} {cc : ByteArray} {pc nL index : Nat} {ret : Option FieldType} {own : String} {ls : Array Slot} {rest : List Value} {E : Lay} {ad : Nat → Nat → Nat} {M N : Mem} (X : CX p s m args meth c cc nL ret own) (hK : KK E s) (hZ : ZZ E s) (hW : WD E ad (M, N) H) (hS : va_S (ow E) s.heap H locs) (hsz : ls.size = nL) {x1 : Int32} {x2 : Int32} {x3 : Int32} {r : Int32} {Mr : Mem} (hf : f_yX8_set M x1 x2 x3 = some (r, Mr)) (hn : Cond.methodLink own index yX8_set ∈ TB) (hR : 2 + 1 ≤ R.frames ∧ 8 + (5 + 11) + 42 ≤ R.locals) (hC : cells ≤ R.cells ∧ slots ≤ R.slots) (h8 : (rest.map fun v => v.category).sum ≤ 8) (hdg : decode cc pc = .ok (.invokevirtual index, 3)) (kk : ∀ (H1 : Heap) (locs1 : List Loc), WD E ad (Mr, N) H1 → va_S (ow E) s.heap H1 locs1 → W p l e R s m args below meth c H1 locs1 cells slots Q (F0 m (pc + 3) ls (.int r :: rest))) : W p l e R s m args below meth c H locs cells slots Q (F0 m pc ls (.int x3 :: .int x2 :: .int x1 :: .ref (ad 0 0) :: rest)) := by
  refine va_calli (va_runV (C := RX8) (As := [.int x1, .int x2, .int x3]) (rest := rest) ⟨X.1, X.2.1, X.2.2.1, X.2.2.2.1, X.2.2.2.2.1⟩ (c_yX8_set l E ad M N x1 x2 x3 r Mr hf) (cwV 3 X.2.2.2.2.1 (gV hn im_yX8_set se_yX8_set iniRX8 cd_yX8_set) rfl rfl rfl (by decide +kernel) hR) ⟨fun a U g mk q => ⟨q.1, q.2.calling⟩, va_recv hK.1 (hW.at (c := 0) (i := 0) Nat.zero_lt_one rfl) (ci := 8) (q0 := 0) rfl rfl, fun U hU hw => ⟨rfl, PB.at hW hK hZ hS hU hw⟩⟩ rfl rfl hsz rfl (lv_room h8) hdg hC) hS (fun _ _ h => h) (fun _ h => h) (fun r' u t H1 locs1 ht hvm hw hB hz1 hk1 hS1 => ?_)
  obtain ⟨rfl, rfl⟩ := hw
  rw [ht] at hB
  exact kk H1 locs1 hB hS1
def f_yX8_give (M : Mem) (x1 : Int32) (x2 : Int32) (x3 : Int32) : Option (Int32 × Mem) := ob1 (f_yX1_at M x1) (fun r2 => om r2 ((some ((-1), M))) (fun j3 => gd (j3 < 6) ((if (M 6 j3 0) = 0 then (some ((-1), M)) else ob1 (f_yX8_isSlot x2) (fun r7 => (if r7 = 0 then (some ((-1), M)) else (if x3 = (-4) then ob1 (f_yX5_grasp M j3 x2 x3) (fun M11 => (some (1, M11))) else ob1 (f_yX4_at M x3) (fun r13 => om r13 ((some ((-1), M))) (fun j14 => ob1 (f_yX5_grasp M j3 x2 x3) (fun M16 => (some (1, M16))))))))))))
set_option maxRecDepth 100000 in
set_option maxHeartbeats 4000000 in
theorem c_yX8_give (l : Launch) (E : Lay) (ad : Nat → Nat → Nat) (M N : Mem) (x1 : Int32) (x2 : Int32) (x3 : Int32) (r : Int32) (Mr : Mem) (hf : f_yX8_give M x1 x2 x3 = some (r, Mr)) : Met l yX8_give (Cond.code yX8_give cX8_give 5 (some .int) :: TB) (rmm 2 42) (va_Pc [.ref (ad 0 0), .int x1, .int x2, .int x3] (PB E ad (M, N))) (Qi E ad r (Mr, N)) 0 0 (ow E) := by
  refine Met.ofW (cc := cX8_give) (maxL := 5) (ret := (some .int)) (by decide) rfl ?_
  intro p e s m args below meth c s₁ B hml hv
  obtain ⟨rfl, hW, hK, hZ⟩ := hv
  have hT : ∀ w ∈ TB, w.before _ s = true := fun w h => atoms_spec (ws := (Cond.code yX8_give cX8_give 5 (some .int) :: TB)) B.pre w (List.mem_cons_of_mem _ h)
  have X : CX p s m _ meth c cX8_give 5 (some .int) RX8 := ⟨B.exec, B.bytes, hml, findClass_of_methodNamed B.named, hT, B.returns, B.notSynchronized⟩
  obtain ⟨hx, hb, hml, hown, hT, hr, hlk⟩ := id X
  have hS : va_S (ow E) s.heap s.heap [] := va_S.rf
  have hl := lv_entry ([.ref (ad 0 0), .int x1, .int x2, .int x3]) (n := 5) (Nat.le_of_ble_eq_true rfl)
  rw [lg_entry_eq]
  generalize (lg_sl ([.ref (ad 0 0), .int x1, .int x2, .int x3]) ++ List.replicate (5 - (lg_sl ([.ref (ad 0 0), .int x1, .int x2, .int x3])).length) Slot.unset).toArray = ls at hl ⊢
  have hl : lv_has ls 5 [(0, .ref (ad 0 0)), (1, .int x1), (2, .int x2), (3, .int x3)] := hl
  unfold f_yX8_give at hf
  refine lv_aload_n hx hb dX8_give_0 rfl (lv_at hl 0 rfl) ?_
  refine g_8_1 X hK hW flRX8_21 dX8_give_1 ?_
  refine lv_iload_n hx hb dX8_give_4 rfl (lv_at hl 1 rfl) ?_
  obtain ⟨r2, h1, hf⟩ := ob1_some hf
  rcases r2 with _ | j3
  · rw [om_n] at hf
    refine k_yX1_atn X hK hZ hW hS hl.1 h1 mlRX8_122 ⟨Nat.le_of_ble_eq_true rfl, Nat.le_of_ble_eq_true rfl⟩ ⟨Nat.le_of_ble_eq_true rfl, Nat.le_of_ble_eq_true rfl⟩ (Nat.le_of_ble_eq_true rfl) dX8_give_5 (fun H locs hW hS => ?_)
    refine lv_astoreN (lv' := [(4, .null), (0, .ref (ad 0 0)), (1, .int x1), (2, .int x2), (3, .int x3)]) hx hb dX8_give_8 hl (by decide) rfl (fun ls hl => ?_)
    refine lv_aloadN hx hb dX8_give_10 (lv_at hl 0 rfl) ?_
    refine lv_ifnullN (tgt := 30) hx hb dX8_give_12 (by decide) ?_
    refine lv_iconst (v := -1) hx hb dX8_give_30 (by decide) ?_
    obtain ⟨rfl, rfl⟩ := sp2 hf
    exact e_i ⟨hx, hb, hr, hlk⟩ hW hS dX8_give_31
  · rw [om_s] at hf
    refine k_yX1_ats X hK hZ hW hS hl.1 h1 mlRX8_122 ⟨Nat.le_of_ble_eq_true rfl, Nat.le_of_ble_eq_true rfl⟩ ⟨Nat.le_of_ble_eq_true rfl, Nat.le_of_ble_eq_true rfl⟩ (Nat.le_of_ble_eq_true rfl) dX8_give_5 (fun H locs hW hS => ?_)
    refine lv_astore (lv' := [(4, .ref (ad 6 j3)), (0, .ref (ad 0 0)), (1, .int x1), (2, .int x2), (3, .int x3)]) hx hb dX8_give_8 hl (by decide) rfl (fun ls hl => ?_)
    refine lv_aload hx hb dX8_give_10 (lv_at hl 0 rfl) ?_
    refine lv_ifnull hx hb dX8_give_12 ?_
    refine lv_aload hx hb dX8_give_15 (lv_at hl 0 rfl) ?_
    obtain ⟨v4, hf⟩ := gd_some hf
    refine g_5_4 X hK hW v4 flRX8_134 dX8_give_17 ?_
    refine lv_if_eq (tgt := 30) hx hb dX8_give_20 (by decide) (fun c5 => ?_) (fun c5 => ?_)
    · rw [if_pos c5] at hf
      refine lv_iconst (v := -1) hx hb dX8_give_30 (by decide) ?_
      obtain ⟨rfl, rfl⟩ := sp2 hf
      exact e_i ⟨hx, hb, hr, hlk⟩ hW hS dX8_give_31
    · rw [if_neg c5] at hf
      refine lv_iload_n hx hb dX8_give_23 rfl (lv_at hl 3 rfl) ?_
      obtain ⟨r7, h6, hf⟩ := ob1_some hf
      refine k_yX8_isSlot X hK hZ hW hS hl.1 h6 mlRX8_137 ⟨Nat.le_of_ble_eq_true rfl, Nat.le_of_ble_eq_true rfl⟩ ⟨Nat.le_of_ble_eq_true rfl, Nat.le_of_ble_eq_true rfl⟩ (Nat.le_of_ble_eq_true rfl) dX8_give_24 (fun H locs hW hS => ?_)
      refine lv_if_ne (tgt := 32) hx hb dX8_give_27 (by decide) (fun c8 => ?_) (fun c8 => ?_)
      · rw [if_neg c8] at hf
        refine lv_iload_n hx hb dX8_give_32 rfl (lv_at hl 4 rfl) ?_
        refine lv_bipush (v := -4) hx hb dX8_give_33 (by decide) ?_
        refine lv_icmp_eq (tgt := 51) hx hb dX8_give_35 (by decide) (fun c9 => ?_) (fun c9 => ?_)
        · rw [if_pos c9] at hf
          refine lv_aload hx hb dX8_give_51 (lv_at hl 0 rfl) ?_
          refine lv_iload_n hx hb dX8_give_53 rfl (lv_at hl 3 rfl) ?_
          refine lv_iload_n hx hb dX8_give_54 rfl (lv_at hl 4 rfl) ?_
          obtain ⟨M11, h10, hf⟩ := ob1_some hf
          refine k_yX5_grasp X hK hZ hW hS hl.1 v4 h10 mlRX8_144 ⟨Nat.le_of_ble_eq_true rfl, Nat.le_of_ble_eq_true rfl⟩ ⟨Nat.le_of_ble_eq_true rfl, Nat.le_of_ble_eq_true rfl⟩ (Nat.le_of_ble_eq_true rfl) dX8_give_55 (fun H locs hW hS => ?_)
          refine lv_iconst (v := 1) hx hb dX8_give_58 (by decide) ?_
          obtain ⟨rfl, rfl⟩ := sp2 hf
          exact e_i ⟨hx, hb, hr, hlk⟩ hW hS dX8_give_59
        · rw [if_neg c9] at hf
          refine lv_aload_n hx hb dX8_give_38 rfl (lv_at hl 1 rfl) ?_
          refine g_8_0 X hK hW flRX8_10 dX8_give_39 ?_
          refine lv_iload_n hx hb dX8_give_42 rfl (lv_at hl 4 rfl) ?_
          obtain ⟨r13, h12, hf⟩ := ob1_some hf
          rcases r13 with _ | j14
          · rw [om_n] at hf
            refine k_yX4_atn X hK hZ hW hS hl.1 h12 mlRX8_60 ⟨Nat.le_of_ble_eq_true rfl, Nat.le_of_ble_eq_true rfl⟩ ⟨Nat.le_of_ble_eq_true rfl, Nat.le_of_ble_eq_true rfl⟩ (Nat.le_of_ble_eq_true rfl) dX8_give_43 (fun H locs hW hS => ?_)
            refine lv_ifnonnullN hx hb dX8_give_46 ?_
            refine lv_iconst (v := -1) hx hb dX8_give_49 (by decide) ?_
            obtain ⟨rfl, rfl⟩ := sp2 hf
            exact e_i ⟨hx, hb, hr, hlk⟩ hW hS dX8_give_50
          · rw [om_s] at hf
            refine k_yX4_ats X hK hZ hW hS hl.1 h12 mlRX8_60 ⟨Nat.le_of_ble_eq_true rfl, Nat.le_of_ble_eq_true rfl⟩ ⟨Nat.le_of_ble_eq_true rfl, Nat.le_of_ble_eq_true rfl⟩ (Nat.le_of_ble_eq_true rfl) dX8_give_43 (fun H locs hW hS => ?_)
            refine lv_ifnonnull (tgt := 51) hx hb dX8_give_46 (by decide) ?_
            refine lv_aload hx hb dX8_give_51 (lv_at hl 0 rfl) ?_
            refine lv_iload_n hx hb dX8_give_53 rfl (lv_at hl 3 rfl) ?_
            refine lv_iload_n hx hb dX8_give_54 rfl (lv_at hl 4 rfl) ?_
            obtain ⟨M16, h15, hf⟩ := ob1_some hf
            refine k_yX5_grasp X hK hZ hW hS hl.1 v4 h15 mlRX8_144 ⟨Nat.le_of_ble_eq_true rfl, Nat.le_of_ble_eq_true rfl⟩ ⟨Nat.le_of_ble_eq_true rfl, Nat.le_of_ble_eq_true rfl⟩ (Nat.le_of_ble_eq_true rfl) dX8_give_55 (fun H locs hW hS => ?_)
            refine lv_iconst (v := 1) hx hb dX8_give_58 (by decide) ?_
            obtain ⟨rfl, rfl⟩ := sp2 hf
            exact e_i ⟨hx, hb, hr, hlk⟩ hW hS dX8_give_59
      · rw [if_pos c8] at hf
        refine lv_iconst (v := -1) hx hb dX8_give_30 (by decide) ?_
        obtain ⟨rfl, rfl⟩ := sp2 hf
        exact e_i ⟨hx, hb, hr, hlk⟩ hW hS dX8_give_31
set_option maxRecDepth 100000 in
set_option maxHeartbeats 4000000 in
theorem k_yX8_give {p : Program} {l : Launch} {e : Env} {R : Room} {s : State} {m : MethodId} {args : Array Value} {below : List Frame} {meth : Method} {c : Code} {H : Heap} {locs : List Loc} {cells slots : Nat} {Q : State → Prop} {cc : ByteArray} {pc nL index : Nat} {ret : Option FieldType} {own : String} {ls : Array Slot} {rest : List Value} {E : Lay} {ad : Nat → Nat → Nat} {M N : Mem} (X : CX p s m args meth c cc nL ret own) (hK : KK E s) (hZ : ZZ E s) (hW : WD E ad (M, N) H) (hS : va_S (ow E) s.heap H locs) (hsz : ls.size = nL) {x1 : Int32} {x2 : Int32} {x3 : Int32} {r : Int32} {Mr : Mem} (hf : f_yX8_give M x1 x2 x3 = some (r, Mr)) (hn : Cond.methodLink own index yX8_give ∈ TB) (hR : 2 + 1 ≤ R.frames ∧ 8 + (5 + 11) + 42 ≤ R.locals) (hC : cells ≤ R.cells ∧ slots ≤ R.slots) (h8 : (rest.map fun v => v.category).sum ≤ 8) (hdg : decode cc pc = .ok (.invokevirtual index, 3)) (kk : ∀ (H1 : Heap) (locs1 : List Loc), WD E ad (Mr, N) H1 → va_S (ow E) s.heap H1 locs1 → W p l e R s m args below meth c H1 locs1 cells slots Q (F0 m (pc + 3) ls (.int r :: rest))) : W p l e R s m args below meth c H locs cells slots Q (F0 m pc ls (.int x3 :: .int x2 :: .int x1 :: .ref (ad 0 0) :: rest)) := by
  refine va_calli (va_runV (C := RX8) (As := [.int x1, .int x2, .int x3]) (rest := rest) ⟨X.1, X.2.1, X.2.2.1, X.2.2.2.1, X.2.2.2.2.1⟩ (c_yX8_give l E ad M N x1 x2 x3 r Mr hf) (cwV 3 X.2.2.2.2.1 (gV hn im_yX8_give se_yX8_give iniRX8 cd_yX8_give) rfl rfl rfl (by decide +kernel) hR) ⟨fun a U g mk q => ⟨q.1, q.2.calling⟩, va_recv hK.1 (hW.at (c := 0) (i := 0) Nat.zero_lt_one rfl) (ci := 8) (q0 := 0) rfl rfl, fun U hU hw => ⟨rfl, PB.at hW hK hZ hS hU hw⟩⟩ rfl rfl hsz rfl (lv_room h8) hdg hC) hS (fun _ _ h => h) (fun _ h => h) (fun r' u t H1 locs1 ht hvm hw hB hz1 hk1 hS1 => ?_)
  obtain ⟨rfl, rfl⟩ := hw
  rw [ht] at hB
  exact kk H1 locs1 hB hS1
def f_yX8_start (M : Mem) (x1 : Int32) : Option (Int32 × Mem) := ob1 (f_yX1_at M x1) (fun r2 => om r2 ((some ((-1), M))) (fun j3 => gd (j3 < 6) ((if (M 6 j3 0) = 1 then ob1 (f_yX5_become M j3 2 (-4) (-4)) (fun M7 => (some (1, M7))) else (some ((-2), M))))))
set_option maxRecDepth 100000 in
set_option maxHeartbeats 4000000 in
theorem c_yX8_start (l : Launch) (E : Lay) (ad : Nat → Nat → Nat) (M N : Mem) (x1 : Int32) (r : Int32) (Mr : Mem) (hf : f_yX8_start M x1 = some (r, Mr)) : Met l yX8_start (Cond.code yX8_start cX8_start 3 (some .int) :: TB) (rmm 1 23) (va_Pc [.ref (ad 0 0), .int x1] (PB E ad (M, N))) (Qi E ad r (Mr, N)) 0 0 (ow E) := by
  refine Met.ofW (cc := cX8_start) (maxL := 3) (ret := (some .int)) (by decide) rfl ?_
  intro p e s m args below meth c s₁ B hml hv
  obtain ⟨rfl, hW, hK, hZ⟩ := hv
  have hT : ∀ w ∈ TB, w.before _ s = true := fun w h => atoms_spec (ws := (Cond.code yX8_start cX8_start 3 (some .int) :: TB)) B.pre w (List.mem_cons_of_mem _ h)
  have X : CX p s m _ meth c cX8_start 3 (some .int) RX8 := ⟨B.exec, B.bytes, hml, findClass_of_methodNamed B.named, hT, B.returns, B.notSynchronized⟩
  obtain ⟨hx, hb, hml, hown, hT, hr, hlk⟩ := id X
  have hS : va_S (ow E) s.heap s.heap [] := va_S.rf
  have hl := lv_entry ([.ref (ad 0 0), .int x1]) (n := 3) (Nat.le_of_ble_eq_true rfl)
  rw [lg_entry_eq]
  generalize (lg_sl ([.ref (ad 0 0), .int x1]) ++ List.replicate (3 - (lg_sl ([.ref (ad 0 0), .int x1])).length) Slot.unset).toArray = ls at hl ⊢
  have hl : lv_has ls 3 [(0, .ref (ad 0 0)), (1, .int x1)] := hl
  unfold f_yX8_start at hf
  refine lv_aload_n hx hb dX8_start_0 rfl (lv_at hl 0 rfl) ?_
  refine g_8_1 X hK hW flRX8_21 dX8_start_1 ?_
  refine lv_iload_n hx hb dX8_start_4 rfl (lv_at hl 1 rfl) ?_
  obtain ⟨r2, h1, hf⟩ := ob1_some hf
  rcases r2 with _ | j3
  · rw [om_n] at hf
    refine k_yX1_atn X hK hZ hW hS hl.1 h1 mlRX8_122 ⟨Nat.le_of_ble_eq_true rfl, Nat.le_of_ble_eq_true rfl⟩ ⟨Nat.le_of_ble_eq_true rfl, Nat.le_of_ble_eq_true rfl⟩ (Nat.le_of_ble_eq_true rfl) dX8_start_5 (fun H locs hW hS => ?_)
    refine lv_astore_nN (lv' := [(2, .null), (0, .ref (ad 0 0)), (1, .int x1)]) hx hb dX8_start_8 rfl hl (by decide) rfl (fun ls hl => ?_)
    refine lv_aload_nN hx hb dX8_start_9 rfl (lv_at hl 0 rfl) ?_
    refine lv_ifnonnullN hx hb dX8_start_10 ?_
    refine lv_iconst (v := -1) hx hb dX8_start_13 (by decide) ?_
    obtain ⟨rfl, rfl⟩ := sp2 hf
    exact e_i ⟨hx, hb, hr, hlk⟩ hW hS dX8_start_14
  · rw [om_s] at hf
    refine k_yX1_ats X hK hZ hW hS hl.1 h1 mlRX8_122 ⟨Nat.le_of_ble_eq_true rfl, Nat.le_of_ble_eq_true rfl⟩ ⟨Nat.le_of_ble_eq_true rfl, Nat.le_of_ble_eq_true rfl⟩ (Nat.le_of_ble_eq_true rfl) dX8_start_5 (fun H locs hW hS => ?_)
    refine lv_astore_n (lv' := [(2, .ref (ad 6 j3)), (0, .ref (ad 0 0)), (1, .int x1)]) hx hb dX8_start_8 rfl hl (by decide) rfl (fun ls hl => ?_)
    refine lv_aload_n hx hb dX8_start_9 rfl (lv_at hl 0 rfl) ?_
    refine lv_ifnonnull (tgt := 15) hx hb dX8_start_10 (by decide) ?_
    refine lv_aload_n hx hb dX8_start_15 rfl (lv_at hl 0 rfl) ?_
    obtain ⟨v4, hf⟩ := gd_some hf
    refine g_5_4 X hK hW v4 flRX8_134 dX8_start_16 ?_
    refine lv_iconst (v := 1) hx hb dX8_start_19 (by decide) ?_
    refine lv_icmp_eq (tgt := 26) hx hb dX8_start_20 (by decide) (fun c5 => ?_) (fun c5 => ?_)
    · rw [if_pos c5] at hf
      refine lv_aload_n hx hb dX8_start_26 rfl (lv_at hl 0 rfl) ?_
      refine lv_iconst (v := 2) hx hb dX8_start_27 (by decide) ?_
      refine lv_bipush (v := -4) hx hb dX8_start_28 (by decide) ?_
      refine lv_bipush (v := -4) hx hb dX8_start_30 (by decide) ?_
      obtain ⟨M7, h6, hf⟩ := ob1_some hf
      refine k_yX5_become X hK hZ hW hS hl.1 v4 h6 mlRX8_147 ⟨Nat.le_of_ble_eq_true rfl, Nat.le_of_ble_eq_true rfl⟩ ⟨Nat.le_of_ble_eq_true rfl, Nat.le_of_ble_eq_true rfl⟩ (Nat.le_of_ble_eq_true rfl) dX8_start_32 (fun H locs hW hS => ?_)
      refine lv_iconst (v := 1) hx hb dX8_start_35 (by decide) ?_
      obtain ⟨rfl, rfl⟩ := sp2 hf
      exact e_i ⟨hx, hb, hr, hlk⟩ hW hS dX8_start_36
    · rw [if_neg c5] at hf
      refine lv_bipush (v := -2) hx hb dX8_start_23 (by decide) ?_
      obtain ⟨rfl, rfl⟩ := sp2 hf
      exact e_i ⟨hx, hb, hr, hlk⟩ hW hS dX8_start_25
set_option maxRecDepth 100000 in
set_option maxHeartbeats 4000000 in
theorem k_yX8_start {p : Program} {l : Launch} {e : Env} {R : Room} {s : State} {m : MethodId} {args : Array Value} {below : List Frame} {meth : Method} {c : Code} {H : Heap} {locs : List Loc} {cells slots : Nat} {Q : State → Prop} {cc : ByteArray} {pc nL index : Nat} {ret : Option FieldType} {own : String} {ls : Array Slot} {rest : List Value} {E : Lay} {ad : Nat → Nat → Nat} {M N : Mem} (X : CX p s m args meth c cc nL ret own) (hK : KK E s) (hZ : ZZ E s) (hW : WD E ad (M, N) H) (hS : va_S (ow E) s.heap H locs) (hsz : ls.size = nL) {x1 : Int32} {r : Int32} {Mr : Mem} (hf : f_yX8_start M x1 = some (r, Mr)) (hn : Cond.methodLink own index yX8_start ∈ TB) (hR : 1 + 1 ≤ R.frames ∧ 8 + (3 + 11) + 23 ≤ R.locals) (hC : cells ≤ R.cells ∧ slots ≤ R.slots) (h8 : (rest.map fun v => v.category).sum ≤ 8) (hdg : decode cc pc = .ok (.invokevirtual index, 3)) (kk : ∀ (H1 : Heap) (locs1 : List Loc), WD E ad (Mr, N) H1 → va_S (ow E) s.heap H1 locs1 → W p l e R s m args below meth c H1 locs1 cells slots Q (F0 m (pc + 3) ls (.int r :: rest))) : W p l e R s m args below meth c H locs cells slots Q (F0 m pc ls (.int x1 :: .ref (ad 0 0) :: rest)) := by
  refine va_calli (va_runV (C := RX8) (As := [.int x1]) (rest := rest) ⟨X.1, X.2.1, X.2.2.1, X.2.2.2.1, X.2.2.2.2.1⟩ (c_yX8_start l E ad M N x1 r Mr hf) (cwV 1 X.2.2.2.2.1 (gV hn im_yX8_start se_yX8_start iniRX8 cd_yX8_start) rfl rfl rfl (by decide +kernel) hR) ⟨fun a U g mk q => ⟨q.1, q.2.calling⟩, va_recv hK.1 (hW.at (c := 0) (i := 0) Nat.zero_lt_one rfl) (ci := 8) (q0 := 0) rfl rfl, fun U hU hw => ⟨rfl, PB.at hW hK hZ hS hU hw⟩⟩ rfl rfl hsz rfl (lv_room h8) hdg hC) hS (fun _ _ h => h) (fun _ h => h) (fun r' u t H1 locs1 ht hvm hw hB hz1 hk1 hS1 => ?_)
  obtain ⟨rfl, rfl⟩ := hw
  rw [ht] at hB
  exact kk H1 locs1 hB hS1
def f_yX8_told (M : Mem) (x1 : Int32) (x2 : Int32) : Option (Int32) := ob1 (f_yX1_at M x1) (fun r2 => om r2 ((some (-1))) (fun j3 => (if x2 = 0 then gd (j3 < 6) ((some (M 6 j3 0))) else (if x2 = 1 then gd (j3 < 6) ((some (M 6 j3 3))) else (if x2 = 2 then gd (j3 < 6) ((some (M 6 j3 9))) else (if x2 = 3 then gd (j3 < 6) ((some (M 6 j3 10))) else (if x2 = 4 then gd (j3 < 6) ((if (M 6 j3 4) = 0 then (some 0) else (some 1))) else (if x2 = 5 then gd (j3 < 6) ((some (M 6 j3 11))) else (if x2 = 6 then gd (j3 < 6) ((some (M 6 j3 12))) else (if x2 = 7 then gd (j3 < 6) ((some (M 7 j3 0))) else (if x2 = 8 then gd (j3 < 6) ((some (M 6 j3 15))) else (some (-1)))))))))))))
set_option maxRecDepth 100000 in
set_option maxHeartbeats 4000000 in
theorem c_yX8_told (l : Launch) (E : Lay) (ad : Nat → Nat → Nat) (M N : Mem) (x1 : Int32) (x2 : Int32) (r : Int32) (hf : f_yX8_told M x1 x2 = some r) : Met l yX8_told (Cond.code yX8_told cX8_told 4 (some .int) :: TB) (rmm 1 21) (va_Pc [.ref (ad 0 0), .int x1, .int x2] (PB E ad (M, N))) (Qi E ad r (M, N)) 0 0 (ow E) := by
  refine Met.ofW (cc := cX8_told) (maxL := 4) (ret := (some .int)) (by decide) rfl ?_
  intro p e s m args below meth c s₁ B hml hv
  obtain ⟨rfl, hW, hK, hZ⟩ := hv
  have hT : ∀ w ∈ TB, w.before _ s = true := fun w h => atoms_spec (ws := (Cond.code yX8_told cX8_told 4 (some .int) :: TB)) B.pre w (List.mem_cons_of_mem _ h)
  have X : CX p s m _ meth c cX8_told 4 (some .int) RX8 := ⟨B.exec, B.bytes, hml, findClass_of_methodNamed B.named, hT, B.returns, B.notSynchronized⟩
  obtain ⟨hx, hb, hml, hown, hT, hr, hlk⟩ := id X
  have hS : va_S (ow E) s.heap s.heap [] := va_S.rf
  have hl := lv_entry ([.ref (ad 0 0), .int x1, .int x2]) (n := 4) (Nat.le_of_ble_eq_true rfl)
  rw [lg_entry_eq]
  generalize (lg_sl ([.ref (ad 0 0), .int x1, .int x2]) ++ List.replicate (4 - (lg_sl ([.ref (ad 0 0), .int x1, .int x2])).length) Slot.unset).toArray = ls at hl ⊢
  have hl : lv_has ls 4 [(0, .ref (ad 0 0)), (1, .int x1), (2, .int x2)] := hl
  unfold f_yX8_told at hf
  refine lv_aload_n hx hb dX8_told_0 rfl (lv_at hl 0 rfl) ?_
  refine g_8_1 X hK hW flRX8_21 dX8_told_1 ?_
  refine lv_iload_n hx hb dX8_told_4 rfl (lv_at hl 1 rfl) ?_
  obtain ⟨r2, h1, hf⟩ := ob1_some hf
  rcases r2 with _ | j3
  · rw [om_n] at hf
    refine k_yX1_atn X hK hZ hW hS hl.1 h1 mlRX8_122 ⟨Nat.le_of_ble_eq_true rfl, Nat.le_of_ble_eq_true rfl⟩ ⟨Nat.le_of_ble_eq_true rfl, Nat.le_of_ble_eq_true rfl⟩ (Nat.le_of_ble_eq_true rfl) dX8_told_5 (fun H locs hW hS => ?_)
    refine lv_astore_nN (lv' := [(3, .null), (0, .ref (ad 0 0)), (1, .int x1), (2, .int x2)]) hx hb dX8_told_8 rfl hl (by decide) rfl (fun ls hl => ?_)
    refine lv_aload_nN hx hb dX8_told_9 rfl (lv_at hl 0 rfl) ?_
    refine lv_ifnonnullN hx hb dX8_told_10 ?_
    refine lv_iconst (v := -1) hx hb dX8_told_13 (by decide) ?_
    obtain rfl := sp1 hf
    exact e_i ⟨hx, hb, hr, hlk⟩ hW hS dX8_told_14
  · rw [om_s] at hf
    refine k_yX1_ats X hK hZ hW hS hl.1 h1 mlRX8_122 ⟨Nat.le_of_ble_eq_true rfl, Nat.le_of_ble_eq_true rfl⟩ ⟨Nat.le_of_ble_eq_true rfl, Nat.le_of_ble_eq_true rfl⟩ (Nat.le_of_ble_eq_true rfl) dX8_told_5 (fun H locs hW hS => ?_)
    refine lv_astore_n (lv' := [(3, .ref (ad 6 j3)), (0, .ref (ad 0 0)), (1, .int x1), (2, .int x2)]) hx hb dX8_told_8 rfl hl (by decide) rfl (fun ls hl => ?_)
    refine lv_aload_n hx hb dX8_told_9 rfl (lv_at hl 0 rfl) ?_
    refine lv_ifnonnull (tgt := 15) hx hb dX8_told_10 (by decide) ?_
    refine lv_iload_n hx hb dX8_told_15 rfl (lv_at hl 3 rfl) ?_
    by_cases c4 : x2 = 0
    · rw [if_pos c4] at hf
      refine lv_tableIn (tgt := 68) hx hb dX8_told_16 (by rw [c4]; decide) (by rw [c4]; decide) (by rw [c4]; rfl) (by decide) ?_
      refine lv_aload_n hx hb dX8_told_68 rfl (lv_at hl 0 rfl) ?_
      obtain ⟨v5, hf⟩ := gd_some hf
      refine g_5_4 X hK hW v5 flRX8_134 dX8_told_69 ?_
      obtain rfl := sp1 hf
      exact e_i ⟨hx, hb, hr, hlk⟩ hW hS dX8_told_72
    rw [if_neg c4] at hf
    by_cases c6 : x2 = 1
    · rw [if_pos c6] at hf
      refine lv_tableIn (tgt := 73) hx hb dX8_told_16 (by rw [c6]; decide) (by rw [c6]; decide) (by rw [c6]; rfl) (by decide) ?_
      refine lv_aload_n hx hb dX8_told_73 rfl (lv_at hl 0 rfl) ?_
      obtain ⟨v7, hf⟩ := gd_some hf
      refine g_5_7 X hK hW v7 flRX8_174 dX8_told_74 ?_
      obtain rfl := sp1 hf
      exact e_i ⟨hx, hb, hr, hlk⟩ hW hS dX8_told_77
    rw [if_neg c6] at hf
    by_cases c8 : x2 = 2
    · rw [if_pos c8] at hf
      refine lv_tableIn (tgt := 78) hx hb dX8_told_16 (by rw [c8]; decide) (by rw [c8]; decide) (by rw [c8]; rfl) (by decide) ?_
      refine lv_aload_n hx hb dX8_told_78 rfl (lv_at hl 0 rfl) ?_
      obtain ⟨v9, hf⟩ := gd_some hf
      refine g_5_13 X hK hW v9 flRX8_177 dX8_told_79 ?_
      obtain rfl := sp1 hf
      exact e_i ⟨hx, hb, hr, hlk⟩ hW hS dX8_told_82
    rw [if_neg c8] at hf
    by_cases c10 : x2 = 3
    · rw [if_pos c10] at hf
      refine lv_tableIn (tgt := 83) hx hb dX8_told_16 (by rw [c10]; decide) (by rw [c10]; decide) (by rw [c10]; rfl) (by decide) ?_
      refine lv_aload_n hx hb dX8_told_83 rfl (lv_at hl 0 rfl) ?_
      obtain ⟨v11, hf⟩ := gd_some hf
      refine g_5_14 X hK hW v11 flRX8_180 dX8_told_84 ?_
      obtain rfl := sp1 hf
      exact e_i ⟨hx, hb, hr, hlk⟩ hW hS dX8_told_87
    rw [if_neg c10] at hf
    by_cases c12 : x2 = 4
    · rw [if_pos c12] at hf
      refine lv_tableIn (tgt := 88) hx hb dX8_told_16 (by rw [c12]; decide) (by rw [c12]; decide) (by rw [c12]; rfl) (by decide) ?_
      refine lv_aload_n hx hb dX8_told_88 rfl (lv_at hl 0 rfl) ?_
      obtain ⟨v13, hf⟩ := gd_some hf
      refine g_5_8 X hK hW v13 flRX8_183 dX8_told_89 ?_
      refine lv_if_eq (tgt := 99) hx hb dX8_told_92 (by decide) (fun c14 => ?_) (fun c14 => ?_)
      · rw [if_pos c14] at hf
        refine lv_iconst (v := 0) hx hb dX8_told_99 (by decide) ?_
        obtain rfl := sp1 hf
        exact e_i ⟨hx, hb, hr, hlk⟩ hW hS dX8_told_100
      · rw [if_neg c14] at hf
        refine lv_iconst (v := 1) hx hb dX8_told_95 (by decide) ?_
        refine lv_goto (tgt := 100) hx hb dX8_told_96 (by decide) ?_
        obtain rfl := sp1 hf
        exact e_i ⟨hx, hb, hr, hlk⟩ hW hS dX8_told_100
    rw [if_neg c12] at hf
    by_cases c15 : x2 = 5
    · rw [if_pos c15] at hf
      refine lv_tableIn (tgt := 101) hx hb dX8_told_16 (by rw [c15]; decide) (by rw [c15]; decide) (by rw [c15]; rfl) (by decide) ?_
      refine lv_aload_n hx hb dX8_told_101 rfl (lv_at hl 0 rfl) ?_
      obtain ⟨v16, hf⟩ := gd_some hf
      refine g_5_15 X hK hW v16 flRX8_187 dX8_told_102 ?_
      obtain rfl := sp1 hf
      exact e_i ⟨hx, hb, hr, hlk⟩ hW hS dX8_told_105
    rw [if_neg c15] at hf
    by_cases c17 : x2 = 6
    · rw [if_pos c17] at hf
      refine lv_tableIn (tgt := 106) hx hb dX8_told_16 (by rw [c17]; decide) (by rw [c17]; decide) (by rw [c17]; rfl) (by decide) ?_
      refine lv_aload_n hx hb dX8_told_106 rfl (lv_at hl 0 rfl) ?_
      obtain ⟨v18, hf⟩ := gd_some hf
      refine g_5_16 X hK hW v18 flRX8_190 dX8_told_107 ?_
      obtain rfl := sp1 hf
      exact e_i ⟨hx, hb, hr, hlk⟩ hW hS dX8_told_110
    rw [if_neg c17] at hf
    by_cases c19 : x2 = 7
    · rw [if_pos c19] at hf
      refine lv_tableIn (tgt := 111) hx hb dX8_told_16 (by rw [c19]; decide) (by rw [c19]; decide) (by rw [c19]; rfl) (by decide) ?_
      refine lv_aload_n hx hb dX8_told_111 rfl (lv_at hl 0 rfl) ?_
      obtain ⟨v20, hf⟩ := gd_some hf
      refine g_5_3 X hK hW v20 flRX8_193 dX8_told_112 ?_
      refine g_2_2 X hK hW v20 flRX8_197 dX8_told_115 ?_
      obtain rfl := sp1 hf
      exact e_i ⟨hx, hb, hr, hlk⟩ hW hS dX8_told_118
    rw [if_neg c19] at hf
    by_cases c21 : x2 = 8
    · rw [if_pos c21] at hf
      refine lv_tableIn (tgt := 119) hx hb dX8_told_16 (by rw [c21]; decide) (by rw [c21]; decide) (by rw [c21]; rfl) (by decide) ?_
      refine lv_aload_n hx hb dX8_told_119 rfl (lv_at hl 0 rfl) ?_
      obtain ⟨v22, hf⟩ := gd_some hf
      refine g_5_19 X hK hW v22 flRX8_200 dX8_told_120 ?_
      obtain rfl := sp1 hf
      exact e_i ⟨hx, hb, hr, hlk⟩ hW hS dX8_told_123
    rw [if_neg c21] at hf
    refine lv_tableOut (tgt := 124) hx hb dX8_told_16 (by have := lv_neT (a := 0) c4 (by decide); have := lv_neT (a := 1) c6 (by decide); have := lv_neT (a := 2) c8 (by decide); have := lv_neT (a := 3) c10 (by decide); have := lv_neT (a := 4) c12 (by decide); have := lv_neT (a := 5) c15 (by decide); have := lv_neT (a := 6) c17 (by decide); have := lv_neT (a := 7) c19 (by decide); have := lv_neT (a := 8) c21 (by decide); omega) (by decide) ?_
    refine lv_iconst (v := -1) hx hb dX8_told_124 (by decide) ?_
    obtain rfl := sp1 hf
    exact e_i ⟨hx, hb, hr, hlk⟩ hW hS dX8_told_125
set_option maxRecDepth 100000 in
set_option maxHeartbeats 4000000 in
theorem k_yX8_told {p : Program} {l : Launch} {e : Env} {R : Room} {s : State} {m : MethodId} {args : Array Value} {below : List Frame} {meth : Method} {c : Code} {H : Heap} {locs : List Loc} {cells slots : Nat} {Q : State → Prop} {cc : ByteArray} {pc nL index : Nat} {ret : Option FieldType} {own : String} {ls : Array Slot} {rest : List Value} {E : Lay} {ad : Nat → Nat → Nat} {M N : Mem} (X : CX p s m args meth c cc nL ret own) (hK : KK E s) (hZ : ZZ E s) (hW : WD E ad (M, N) H) (hS : va_S (ow E) s.heap H locs) (hsz : ls.size = nL) {x1 : Int32} {x2 : Int32} {r : Int32} (hf : f_yX8_told M x1 x2 = some r) (hn : Cond.methodLink own index yX8_told ∈ TB) (hR : 1 + 1 ≤ R.frames ∧ 8 + (4 + 11) + 21 ≤ R.locals) (hC : cells ≤ R.cells ∧ slots ≤ R.slots) (h8 : (rest.map fun v => v.category).sum ≤ 8) (hdg : decode cc pc = .ok (.invokevirtual index, 3)) (kk : ∀ (H1 : Heap) (locs1 : List Loc), WD E ad (M, N) H1 → va_S (ow E) s.heap H1 locs1 → W p l e R s m args below meth c H1 locs1 cells slots Q (F0 m (pc + 3) ls (.int r :: rest))) : W p l e R s m args below meth c H locs cells slots Q (F0 m pc ls (.int x2 :: .int x1 :: .ref (ad 0 0) :: rest)) := by
  refine va_calli (va_runV (C := RX8) (As := [.int x1, .int x2]) (rest := rest) ⟨X.1, X.2.1, X.2.2.1, X.2.2.2.1, X.2.2.2.2.1⟩ (c_yX8_told l E ad M N x1 x2 r hf) (cwV 2 X.2.2.2.2.1 (gV hn im_yX8_told se_yX8_told iniRX8 cd_yX8_told) rfl rfl rfl (by decide +kernel) hR) ⟨fun a U g mk q => ⟨q.1, q.2.calling⟩, va_recv hK.1 (hW.at (c := 0) (i := 0) Nat.zero_lt_one rfl) (ci := 8) (q0 := 0) rfl rfl, fun U hU hw => ⟨rfl, PB.at hW hK hZ hS hU hw⟩⟩ rfl rfl hsz rfl (lv_room h8) hdg hC) hS (fun _ _ h => h) (fun _ h => h) (fun r' u t H1 locs1 ht hvm hw hB hz1 hk1 hS1 => ?_)
  obtain ⟨rfl, rfl⟩ := hw
  rw [ht] at hB
  exact kk H1 locs1 hB hS1
def f_yX8_register (M : Mem) (x1 : Int32) (x2 : Int32) : Option (Int32) := ob1 (f_yX1_at M x1) (fun r2 => om r2 ((some (-1))) (fun j3 => ob1 (f_yX8_isSlot x2) (fun r5 => (if r5 = 0 then (some (-1)) else gd (j3 < 6) (ob1 (f_yX5_kept M j3 x2) (fun r9 => (some r9)))))))
set_option maxRecDepth 100000 in
set_option maxHeartbeats 4000000 in
theorem c_yX8_register (l : Launch) (E : Lay) (ad : Nat → Nat → Nat) (M N : Mem) (x1 : Int32) (x2 : Int32) (r : Int32) (hf : f_yX8_register M x1 x2 = some r) : Met l yX8_register (Cond.code yX8_register cX8_register 4 (some .int) :: TB) (rmm 2 41) (va_Pc [.ref (ad 0 0), .int x1, .int x2] (PB E ad (M, N))) (Qi E ad r (M, N)) 0 0 (ow E) := by
  refine Met.ofW (cc := cX8_register) (maxL := 4) (ret := (some .int)) (by decide) rfl ?_
  intro p e s m args below meth c s₁ B hml hv
  obtain ⟨rfl, hW, hK, hZ⟩ := hv
  have hT : ∀ w ∈ TB, w.before _ s = true := fun w h => atoms_spec (ws := (Cond.code yX8_register cX8_register 4 (some .int) :: TB)) B.pre w (List.mem_cons_of_mem _ h)
  have X : CX p s m _ meth c cX8_register 4 (some .int) RX8 := ⟨B.exec, B.bytes, hml, findClass_of_methodNamed B.named, hT, B.returns, B.notSynchronized⟩
  obtain ⟨hx, hb, hml, hown, hT, hr, hlk⟩ := id X
  have hS : va_S (ow E) s.heap s.heap [] := va_S.rf
  have hl := lv_entry ([.ref (ad 0 0), .int x1, .int x2]) (n := 4) (Nat.le_of_ble_eq_true rfl)
  rw [lg_entry_eq]
  generalize (lg_sl ([.ref (ad 0 0), .int x1, .int x2]) ++ List.replicate (4 - (lg_sl ([.ref (ad 0 0), .int x1, .int x2])).length) Slot.unset).toArray = ls at hl ⊢
  have hl : lv_has ls 4 [(0, .ref (ad 0 0)), (1, .int x1), (2, .int x2)] := hl
  unfold f_yX8_register at hf
  refine lv_aload_n hx hb dX8_register_0 rfl (lv_at hl 0 rfl) ?_
  refine g_8_1 X hK hW flRX8_21 dX8_register_1 ?_
  refine lv_iload_n hx hb dX8_register_4 rfl (lv_at hl 1 rfl) ?_
  obtain ⟨r2, h1, hf⟩ := ob1_some hf
  rcases r2 with _ | j3
  · rw [om_n] at hf
    refine k_yX1_atn X hK hZ hW hS hl.1 h1 mlRX8_122 ⟨Nat.le_of_ble_eq_true rfl, Nat.le_of_ble_eq_true rfl⟩ ⟨Nat.le_of_ble_eq_true rfl, Nat.le_of_ble_eq_true rfl⟩ (Nat.le_of_ble_eq_true rfl) dX8_register_5 (fun H locs hW hS => ?_)
    refine lv_astore_nN (lv' := [(3, .null), (0, .ref (ad 0 0)), (1, .int x1), (2, .int x2)]) hx hb dX8_register_8 rfl hl (by decide) rfl (fun ls hl => ?_)
    refine lv_aload_nN hx hb dX8_register_9 rfl (lv_at hl 0 rfl) ?_
    refine lv_ifnullN (tgt := 20) hx hb dX8_register_10 (by decide) ?_
    refine lv_iconst (v := -1) hx hb dX8_register_20 (by decide) ?_
    refine lv_goto (tgt := 29) hx hb dX8_register_21 (by decide) ?_
    obtain rfl := sp1 hf
    exact e_i ⟨hx, hb, hr, hlk⟩ hW hS dX8_register_29
  · rw [om_s] at hf
    refine k_yX1_ats X hK hZ hW hS hl.1 h1 mlRX8_122 ⟨Nat.le_of_ble_eq_true rfl, Nat.le_of_ble_eq_true rfl⟩ ⟨Nat.le_of_ble_eq_true rfl, Nat.le_of_ble_eq_true rfl⟩ (Nat.le_of_ble_eq_true rfl) dX8_register_5 (fun H locs hW hS => ?_)
    refine lv_astore_n (lv' := [(3, .ref (ad 6 j3)), (0, .ref (ad 0 0)), (1, .int x1), (2, .int x2)]) hx hb dX8_register_8 rfl hl (by decide) rfl (fun ls hl => ?_)
    refine lv_aload_n hx hb dX8_register_9 rfl (lv_at hl 0 rfl) ?_
    refine lv_ifnull hx hb dX8_register_10 ?_
    refine lv_iload_n hx hb dX8_register_13 rfl (lv_at hl 3 rfl) ?_
    obtain ⟨r5, h4, hf⟩ := ob1_some hf
    refine k_yX8_isSlot X hK hZ hW hS hl.1 h4 mlRX8_137 ⟨Nat.le_of_ble_eq_true rfl, Nat.le_of_ble_eq_true rfl⟩ ⟨Nat.le_of_ble_eq_true rfl, Nat.le_of_ble_eq_true rfl⟩ (Nat.le_of_ble_eq_true rfl) dX8_register_14 (fun H locs hW hS => ?_)
    refine lv_if_ne (tgt := 24) hx hb dX8_register_17 (by decide) (fun c6 => ?_) (fun c6 => ?_)
    · rw [if_neg c6] at hf
      refine lv_aload_n hx hb dX8_register_24 rfl (lv_at hl 0 rfl) ?_
      refine lv_iload_n hx hb dX8_register_25 rfl (lv_at hl 3 rfl) ?_
      obtain ⟨v7, hf⟩ := gd_some hf
      obtain ⟨r9, h8, hf⟩ := ob1_some hf
      refine k_yX5_kept X hK hZ hW hS hl.1 v7 h8 mlRX8_203 ⟨Nat.le_of_ble_eq_true rfl, Nat.le_of_ble_eq_true rfl⟩ ⟨Nat.le_of_ble_eq_true rfl, Nat.le_of_ble_eq_true rfl⟩ (Nat.le_of_ble_eq_true rfl) dX8_register_26 (fun H locs hW hS => ?_)
      obtain rfl := sp1 hf
      exact e_i ⟨hx, hb, hr, hlk⟩ hW hS dX8_register_29
    · rw [if_pos c6] at hf
      refine lv_iconst (v := -1) hx hb dX8_register_20 (by decide) ?_
      refine lv_goto (tgt := 29) hx hb dX8_register_21 (by decide) ?_
      obtain rfl := sp1 hf
      exact e_i ⟨hx, hb, hr, hlk⟩ hW hS dX8_register_29
set_option maxRecDepth 100000 in
set_option maxHeartbeats 4000000 in
theorem k_yX8_register {p : Program} {l : Launch} {e : Env} {R : Room} {s : State} {m : MethodId} {args : Array Value} {below : List Frame} {meth : Method} {c : Code} {H : Heap} {locs : List Loc} {cells slots : Nat} {Q : State → Prop} {cc : ByteArray} {pc nL index : Nat} {ret : Option FieldType} {own : String} {ls : Array Slot} {rest : List Value} {E : Lay} {ad : Nat → Nat → Nat} {M N : Mem} (X : CX p s m args meth c cc nL ret own) (hK : KK E s) (hZ : ZZ E s) (hW : WD E ad (M, N) H) (hS : va_S (ow E) s.heap H locs) (hsz : ls.size = nL) {x1 : Int32} {x2 : Int32} {r : Int32} (hf : f_yX8_register M x1 x2 = some r) (hn : Cond.methodLink own index yX8_register ∈ TB) (hR : 2 + 1 ≤ R.frames ∧ 8 + (4 + 11) + 41 ≤ R.locals) (hC : cells ≤ R.cells ∧ slots ≤ R.slots) (h8 : (rest.map fun v => v.category).sum ≤ 8) (hdg : decode cc pc = .ok (.invokevirtual index, 3)) (kk : ∀ (H1 : Heap) (locs1 : List Loc), WD E ad (M, N) H1 → va_S (ow E) s.heap H1 locs1 → W p l e R s m args below meth c H1 locs1 cells slots Q (F0 m (pc + 3) ls (.int r :: rest))) : W p l e R s m args below meth c H locs cells slots Q (F0 m pc ls (.int x2 :: .int x1 :: .ref (ad 0 0) :: rest)) := by
  refine va_calli (va_runV (C := RX8) (As := [.int x1, .int x2]) (rest := rest) ⟨X.1, X.2.1, X.2.2.1, X.2.2.2.1, X.2.2.2.2.1⟩ (c_yX8_register l E ad M N x1 x2 r hf) (cwV 2 X.2.2.2.2.1 (gV hn im_yX8_register se_yX8_register iniRX8 cd_yX8_register) rfl rfl rfl (by decide +kernel) hR) ⟨fun a U g mk q => ⟨q.1, q.2.calling⟩, va_recv hK.1 (hW.at (c := 0) (i := 0) Nat.zero_lt_one rfl) (ci := 8) (q0 := 0) rfl rfl, fun U hU hw => ⟨rfl, PB.at hW hK hZ hS hU hw⟩⟩ rfl rfl hsz rfl (lv_room h8) hdg hC) hS (fun _ _ h => h) (fun _ h => h) (fun r' u t H1 locs1 ht hvm hw hB hz1 hk1 hS1 => ?_)
  obtain ⟨rfl, rfl⟩ := hw
  rw [ht] at hB
  exact kk H1 locs1 hB hS1
def f_yX8_hand (M : Mem) (x1 : Int32) (x2 : Int32) : Option (Int32) := ob1 (f_yX1_at M x1) (fun r2 => om r2 ((some (-1))) (fun j3 => ob1 (f_yX8_isSlot x2) (fun r5 => (if r5 = 0 then (some (-1)) else gd (j3 < 6) (ob1 (f_yX5_held M j3 x2) (fun r9 => (some r9)))))))
set_option maxRecDepth 100000 in
set_option maxHeartbeats 4000000 in
theorem c_yX8_hand (l : Launch) (E : Lay) (ad : Nat → Nat → Nat) (M N : Mem) (x1 : Int32) (x2 : Int32) (r : Int32) (hf : f_yX8_hand M x1 x2 = some r) : Met l yX8_hand (Cond.code yX8_hand cX8_hand 4 (some .int) :: TB) (rmm 2 41) (va_Pc [.ref (ad 0 0), .int x1, .int x2] (PB E ad (M, N))) (Qi E ad r (M, N)) 0 0 (ow E) := by
  refine Met.ofW (cc := cX8_hand) (maxL := 4) (ret := (some .int)) (by decide) rfl ?_
  intro p e s m args below meth c s₁ B hml hv
  obtain ⟨rfl, hW, hK, hZ⟩ := hv
  have hT : ∀ w ∈ TB, w.before _ s = true := fun w h => atoms_spec (ws := (Cond.code yX8_hand cX8_hand 4 (some .int) :: TB)) B.pre w (List.mem_cons_of_mem _ h)
  have X : CX p s m _ meth c cX8_hand 4 (some .int) RX8 := ⟨B.exec, B.bytes, hml, findClass_of_methodNamed B.named, hT, B.returns, B.notSynchronized⟩
  obtain ⟨hx, hb, hml, hown, hT, hr, hlk⟩ := id X
  have hS : va_S (ow E) s.heap s.heap [] := va_S.rf
  have hl := lv_entry ([.ref (ad 0 0), .int x1, .int x2]) (n := 4) (Nat.le_of_ble_eq_true rfl)
  rw [lg_entry_eq]
  generalize (lg_sl ([.ref (ad 0 0), .int x1, .int x2]) ++ List.replicate (4 - (lg_sl ([.ref (ad 0 0), .int x1, .int x2])).length) Slot.unset).toArray = ls at hl ⊢
  have hl : lv_has ls 4 [(0, .ref (ad 0 0)), (1, .int x1), (2, .int x2)] := hl
  unfold f_yX8_hand at hf
  refine lv_aload_n hx hb dX8_hand_0 rfl (lv_at hl 0 rfl) ?_
  refine g_8_1 X hK hW flRX8_21 dX8_hand_1 ?_
  refine lv_iload_n hx hb dX8_hand_4 rfl (lv_at hl 1 rfl) ?_
  obtain ⟨r2, h1, hf⟩ := ob1_some hf
  rcases r2 with _ | j3
  · rw [om_n] at hf
    refine k_yX1_atn X hK hZ hW hS hl.1 h1 mlRX8_122 ⟨Nat.le_of_ble_eq_true rfl, Nat.le_of_ble_eq_true rfl⟩ ⟨Nat.le_of_ble_eq_true rfl, Nat.le_of_ble_eq_true rfl⟩ (Nat.le_of_ble_eq_true rfl) dX8_hand_5 (fun H locs hW hS => ?_)
    refine lv_astore_nN (lv' := [(3, .null), (0, .ref (ad 0 0)), (1, .int x1), (2, .int x2)]) hx hb dX8_hand_8 rfl hl (by decide) rfl (fun ls hl => ?_)
    refine lv_aload_nN hx hb dX8_hand_9 rfl (lv_at hl 0 rfl) ?_
    refine lv_ifnullN (tgt := 20) hx hb dX8_hand_10 (by decide) ?_
    refine lv_iconst (v := -1) hx hb dX8_hand_20 (by decide) ?_
    refine lv_goto (tgt := 29) hx hb dX8_hand_21 (by decide) ?_
    obtain rfl := sp1 hf
    exact e_i ⟨hx, hb, hr, hlk⟩ hW hS dX8_hand_29
  · rw [om_s] at hf
    refine k_yX1_ats X hK hZ hW hS hl.1 h1 mlRX8_122 ⟨Nat.le_of_ble_eq_true rfl, Nat.le_of_ble_eq_true rfl⟩ ⟨Nat.le_of_ble_eq_true rfl, Nat.le_of_ble_eq_true rfl⟩ (Nat.le_of_ble_eq_true rfl) dX8_hand_5 (fun H locs hW hS => ?_)
    refine lv_astore_n (lv' := [(3, .ref (ad 6 j3)), (0, .ref (ad 0 0)), (1, .int x1), (2, .int x2)]) hx hb dX8_hand_8 rfl hl (by decide) rfl (fun ls hl => ?_)
    refine lv_aload_n hx hb dX8_hand_9 rfl (lv_at hl 0 rfl) ?_
    refine lv_ifnull hx hb dX8_hand_10 ?_
    refine lv_iload_n hx hb dX8_hand_13 rfl (lv_at hl 3 rfl) ?_
    obtain ⟨r5, h4, hf⟩ := ob1_some hf
    refine k_yX8_isSlot X hK hZ hW hS hl.1 h4 mlRX8_137 ⟨Nat.le_of_ble_eq_true rfl, Nat.le_of_ble_eq_true rfl⟩ ⟨Nat.le_of_ble_eq_true rfl, Nat.le_of_ble_eq_true rfl⟩ (Nat.le_of_ble_eq_true rfl) dX8_hand_14 (fun H locs hW hS => ?_)
    refine lv_if_ne (tgt := 24) hx hb dX8_hand_17 (by decide) (fun c6 => ?_) (fun c6 => ?_)
    · rw [if_neg c6] at hf
      refine lv_aload_n hx hb dX8_hand_24 rfl (lv_at hl 0 rfl) ?_
      refine lv_iload_n hx hb dX8_hand_25 rfl (lv_at hl 3 rfl) ?_
      obtain ⟨v7, hf⟩ := gd_some hf
      obtain ⟨r9, h8, hf⟩ := ob1_some hf
      refine k_yX5_held X hK hZ hW hS hl.1 v7 h8 mlRX8_206 ⟨Nat.le_of_ble_eq_true rfl, Nat.le_of_ble_eq_true rfl⟩ ⟨Nat.le_of_ble_eq_true rfl, Nat.le_of_ble_eq_true rfl⟩ (Nat.le_of_ble_eq_true rfl) dX8_hand_26 (fun H locs hW hS => ?_)
      obtain rfl := sp1 hf
      exact e_i ⟨hx, hb, hr, hlk⟩ hW hS dX8_hand_29
    · rw [if_pos c6] at hf
      refine lv_iconst (v := -1) hx hb dX8_hand_20 (by decide) ?_
      refine lv_goto (tgt := 29) hx hb dX8_hand_21 (by decide) ?_
      obtain rfl := sp1 hf
      exact e_i ⟨hx, hb, hr, hlk⟩ hW hS dX8_hand_29
set_option maxRecDepth 100000 in
set_option maxHeartbeats 4000000 in
theorem k_yX8_hand {p : Program} {l : Launch} {e : Env} {R : Room} {s : State} {m : MethodId} {args : Array Value} {below : List Frame} {meth : Method} {c : Code} {H : Heap} {locs : List Loc} {cells slots : Nat} {Q : State → Prop} {cc : ByteArray} {pc nL index : Nat} {ret : Option FieldType} {own : String} {ls : Array Slot} {rest : List Value} {E : Lay} {ad : Nat → Nat → Nat} {M N : Mem} (X : CX p s m args meth c cc nL ret own) (hK : KK E s) (hZ : ZZ E s) (hW : WD E ad (M, N) H) (hS : va_S (ow E) s.heap H locs) (hsz : ls.size = nL) {x1 : Int32} {x2 : Int32} {r : Int32} (hf : f_yX8_hand M x1 x2 = some r) (hn : Cond.methodLink own index yX8_hand ∈ TB) (hR : 2 + 1 ≤ R.frames ∧ 8 + (4 + 11) + 41 ≤ R.locals) (hC : cells ≤ R.cells ∧ slots ≤ R.slots) (h8 : (rest.map fun v => v.category).sum ≤ 8) (hdg : decode cc pc = .ok (.invokevirtual index, 3)) (kk : ∀ (H1 : Heap) (locs1 : List Loc), WD E ad (M, N) H1 → va_S (ow E) s.heap H1 locs1 → W p l e R s m args below meth c H1 locs1 cells slots Q (F0 m (pc + 3) ls (.int r :: rest))) : W p l e R s m args below meth c H locs cells slots Q (F0 m pc ls (.int x2 :: .int x1 :: .ref (ad 0 0) :: rest)) := by
  refine va_calli (va_runV (C := RX8) (As := [.int x1, .int x2]) (rest := rest) ⟨X.1, X.2.1, X.2.2.1, X.2.2.2.1, X.2.2.2.2.1⟩ (c_yX8_hand l E ad M N x1 x2 r hf) (cwV 2 X.2.2.2.2.1 (gV hn im_yX8_hand se_yX8_hand iniRX8 cd_yX8_hand) rfl rfl rfl (by decide +kernel) hR) ⟨fun a U g mk q => ⟨q.1, q.2.calling⟩, va_recv hK.1 (hW.at (c := 0) (i := 0) Nat.zero_lt_one rfl) (ci := 8) (q0 := 0) rfl rfl, fun U hU hw => ⟨rfl, PB.at hW hK hZ hS hU hw⟩⟩ rfl rfl hsz rfl (lv_room h8) hdg hC) hS (fun _ _ h => h) (fun _ h => h) (fun r' u t H1 locs1 ht hvm hw hB hz1 hk1 hS1 => ?_)
  obtain ⟨rfl, rfl⟩ := hw
  rw [ht] at hB
  exact kk H1 locs1 hB hS1
def f_yX0_divide (M : Mem) (i1 : Nat) (x2 : Int32) (x3 : Int32) : Option (Int32 × Mem) := (if x3 = 0 then (some (6, M)) else ob1 (f_yX5_kept M i1 x2) (fun r3 => gd (¬ x3 = 0) (ob1 (f_yX5_keep M i1 x2 (r3 / x3)) (fun M6 => (some (0, M6))))))
set_option maxRecDepth 100000 in
set_option maxHeartbeats 4000000 in
theorem c_yX0_divide (l : Launch) (E : Lay) (ad : Nat → Nat → Nat) (M N : Mem) (i1 : Nat) (x2 : Int32) (x3 : Int32) (w1 : i1 < 6) (r : Int32) (Mr : Mem) (hf : f_yX0_divide M i1 x2 x3 = some (r, Mr)) : Met l yX0_divide (Cond.code yX0_divide cX0_divide 4 (some .int) :: TB) (rmm 2 42) (va_Pc [.ref (ad 3 0), .ref (ad 6 i1), .int x2, .int x3] (PB E ad (M, N))) (Qi E ad r (Mr, N)) 0 0 (ow E) := by
  refine Met.ofW (cc := cX0_divide) (maxL := 4) (ret := (some .int)) (by decide) rfl ?_
  intro p e s m args below meth c s₁ B hml hv
  obtain ⟨rfl, hW, hK, hZ⟩ := hv
  have hT : ∀ w ∈ TB, w.before _ s = true := fun w h => atoms_spec (ws := (Cond.code yX0_divide cX0_divide 4 (some .int) :: TB)) B.pre w (List.mem_cons_of_mem _ h)
  have X : CX p s m _ meth c cX0_divide 4 (some .int) RX0 := ⟨B.exec, B.bytes, hml, findClass_of_methodNamed B.named, hT, B.returns, B.notSynchronized⟩
  obtain ⟨hx, hb, hml, hown, hT, hr, hlk⟩ := id X
  have hS : va_S (ow E) s.heap s.heap [] := va_S.rf
  have hl := lv_entry ([.ref (ad 3 0), .ref (ad 6 i1), .int x2, .int x3]) (n := 4) (Nat.le_of_ble_eq_true rfl)
  rw [lg_entry_eq]
  generalize (lg_sl ([.ref (ad 3 0), .ref (ad 6 i1), .int x2, .int x3]) ++ List.replicate (4 - (lg_sl ([.ref (ad 3 0), .ref (ad 6 i1), .int x2, .int x3])).length) Slot.unset).toArray = ls at hl ⊢
  have hl : lv_has ls 4 [(0, .ref (ad 3 0)), (1, .ref (ad 6 i1)), (2, .int x2), (3, .int x3)] := hl
  unfold f_yX0_divide at hf
  refine lv_iload_n hx hb dX0_divide_0 rfl (lv_at hl 3 rfl) ?_
  refine lv_if_ne (tgt := 7) hx hb dX0_divide_1 (by decide) (fun c1 => ?_) (fun c1 => ?_)
  · rw [if_neg c1] at hf
    refine lv_aload_n hx hb dX0_divide_7 rfl (lv_at hl 1 rfl) ?_
    refine lv_iload_n hx hb dX0_divide_8 rfl (lv_at hl 2 rfl) ?_
    refine lv_aload_n hx hb dX0_divide_9 rfl (lv_at hl 1 rfl) ?_
    refine lv_iload_n hx hb dX0_divide_10 rfl (lv_at hl 2 rfl) ?_
    obtain ⟨r3, h2, hf⟩ := ob1_some hf
    refine k_yX5_kept X hK hZ hW hS hl.1 w1 h2 mlRX0_72 ⟨Nat.le_of_ble_eq_true rfl, Nat.le_of_ble_eq_true rfl⟩ ⟨Nat.le_of_ble_eq_true rfl, Nat.le_of_ble_eq_true rfl⟩ (Nat.le_of_ble_eq_true rfl) dX0_divide_11 (fun H locs hW hS => ?_)
    refine lv_iload_n hx hb dX0_divide_14 rfl (lv_at hl 3 rfl) ?_
    obtain ⟨q4, hf⟩ := gd_some hf
    refine lv_idiv hx hb dX0_divide_15 q4 ?_
    obtain ⟨M6, h5, hf⟩ := ob1_some hf
    refine k_yX5_keep X hK hZ hW hS hl.1 w1 h5 mlRX0_68 ⟨Nat.le_of_ble_eq_true rfl, Nat.le_of_ble_eq_true rfl⟩ ⟨Nat.le_of_ble_eq_true rfl, Nat.le_of_ble_eq_true rfl⟩ (Nat.le_of_ble_eq_true rfl) dX0_divide_16 (fun H locs hW hS => ?_)
    refine lv_iconst (v := 0) hx hb dX0_divide_19 (by decide) ?_
    obtain ⟨rfl, rfl⟩ := sp2 hf
    exact e_i ⟨hx, hb, hr, hlk⟩ hW hS dX0_divide_20
  · rw [if_pos c1] at hf
    refine lv_bipush (v := 6) hx hb dX0_divide_4 (by decide) ?_
    obtain ⟨rfl, rfl⟩ := sp2 hf
    exact e_i ⟨hx, hb, hr, hlk⟩ hW hS dX0_divide_6
set_option maxRecDepth 100000 in
set_option maxHeartbeats 4000000 in
theorem k_yX0_divide {p : Program} {l : Launch} {e : Env} {R : Room} {s : State} {m : MethodId} {args : Array Value} {below : List Frame} {meth : Method} {c : Code} {H : Heap} {locs : List Loc} {cells slots : Nat} {Q : State → Prop} {cc : ByteArray} {pc nL index : Nat} {ret : Option FieldType} {own : String} {ls : Array Slot} {rest : List Value} {E : Lay} {ad : Nat → Nat → Nat} {M N : Mem} (X : CX p s m args meth c cc nL ret own) (hK : KK E s) (hZ : ZZ E s) (hW : WD E ad (M, N) H) (hS : va_S (ow E) s.heap H locs) (hsz : ls.size = nL) {i1 : Nat} {x2 : Int32} {x3 : Int32} (w1 : i1 < 6) {r : Int32} {Mr : Mem} (hf : f_yX0_divide M i1 x2 x3 = some (r, Mr)) (hn : Cond.methodLink own index yX0_divide ∈ TB) (hR : 2 + 1 ≤ R.frames ∧ 8 + (4 + 11) + 42 ≤ R.locals) (hC : cells ≤ R.cells ∧ slots ≤ R.slots) (h8 : (rest.map fun v => v.category).sum ≤ 8) (hdg : decode cc pc = .ok (.invokevirtual index, 3)) (kk : ∀ (H1 : Heap) (locs1 : List Loc), WD E ad (Mr, N) H1 → va_S (ow E) s.heap H1 locs1 → W p l e R s m args below meth c H1 locs1 cells slots Q (F0 m (pc + 3) ls (.int r :: rest))) : W p l e R s m args below meth c H locs cells slots Q (F0 m pc ls (.int x3 :: .int x2 :: .ref (ad 6 i1) :: .ref (ad 3 0) :: rest)) := by
  refine va_calli (va_runV (C := RX0) (As := [.ref (ad 6 i1), .int x2, .int x3]) (rest := rest) ⟨X.1, X.2.1, X.2.2.1, X.2.2.2.1, X.2.2.2.2.1⟩ (c_yX0_divide l E ad M N i1 x2 x3 w1 r Mr hf) (cwV 3 X.2.2.2.2.1 (gV hn im_yX0_divide se_yX0_divide iniRX0 cd_yX0_divide) rfl rfl rfl (by decide +kernel) hR) ⟨fun a U g mk q => ⟨q.1, q.2.calling⟩, va_recv hK.1 (hW.at (c := 3) (i := 0) Nat.zero_lt_one rfl) (ci := 0) (q0 := 0) rfl rfl, fun U hU hw => ⟨rfl, PB.at hW hK hZ hS hU hw⟩⟩ rfl rfl hsz rfl (lv_room h8) hdg hC) hS (fun _ _ h => h) (fun _ h => h) (fun r' u t H1 locs1 ht hvm hw hB hz1 hk1 hS1 => ?_)
  obtain ⟨rfl, rfl⟩ := hw
  rw [ht] at hB
  exact kk H1 locs1 hB hS1
