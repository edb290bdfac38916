def f_yX9_in (x0 : Int32) (x1 : Int32) (x2 : Int32) : Option (Int32) := (if x0 < x1 then (some 0) else (if x2 < x0 then (some 0) else (some 1)))
set_option maxRecDepth 100000 in
set_option maxHeartbeats 4000000 in
theorem c_yX9_in (l : Launch) (E : Lay) (ad : Nat → Nat → Nat) (M N : Mem) (x0 : Int32) (x1 : Int32) (x2 : Int32) (r : Int32) (hf : f_yX9_in x0 x1 x2 = some r) : Met l yX9_in (Cond.code yX9_in cX9_in 3 (some .boolean) :: TB) (rmm 0 0) (va_Pc [.int x0, .int x1, .int x2] (PB E ad (M, N))) (Qi E ad r (M, N)) 0 0 (ow E) := by
  refine Met.ofW (cc := cX9_in) (maxL := 3) (ret := (some .boolean)) (by decide) rfl ?_
  intro p e s m args below meth c s₁ B hml hv
  obtain ⟨rfl, hW, hK, hZ⟩ := hv
  have hT : ∀ w ∈ TB, w.before _ s = true := fun w h => atoms_spec (ws := (Cond.code yX9_in cX9_in 3 (some .boolean) :: TB)) B.pre w (List.mem_cons_of_mem _ h)
  have X : CX p s m _ meth c cX9_in 3 (some .boolean) RX9 := ⟨B.exec, B.bytes, hml, findClass_of_methodNamed B.named, hT, B.returns, B.notSynchronized⟩
  obtain ⟨hx, hb, hml, hown, hT, hr, hlk⟩ := id X
  have hS : va_S (ow E) s.heap s.heap [] := va_S.rf
  have hl := lv_entry ([.int x0, .int x1, .int x2]) (n := 3) (Nat.le_of_ble_eq_true rfl)
  rw [lg_entry_eq]
  generalize (lg_sl ([.int x0, .int x1, .int x2]) ++ List.replicate (3 - (lg_sl ([.int x0, .int x1, .int x2])).length) Slot.unset).toArray = ls at hl ⊢
  have hl : lv_has ls 3 [(0, .int x0), (1, .int x1), (2, .int x2)] := hl
  unfold f_yX9_in at hf
  refine lv_iload_n hx hb dX9_in_0 rfl (lv_at hl 0 rfl) ?_
  refine lv_iload_n hx hb dX9_in_1 rfl (lv_at hl 1 rfl) ?_
  refine lv_icmp_lt (tgt := 14) hx hb dX9_in_2 (by decide) (fun c1 => ?_) (fun c1 => ?_)
  · rw [if_pos c1] at hf
    refine lv_iconst (v := 0) hx hb dX9_in_14 (by decide) ?_
    obtain rfl := sp1 hf
    exact e_z ⟨hx, hb, hr, hlk⟩ rfl hW hS dX9_in_15
  · rw [if_neg c1] at hf
    refine lv_iload_n hx hb dX9_in_5 rfl (lv_at hl 0 rfl) ?_
    refine lv_iload_n hx hb dX9_in_6 rfl (lv_at hl 2 rfl) ?_
    refine lv_icmp_gt (tgt := 14) hx hb dX9_in_7 (by decide) (fun c2 => ?_) (fun c2 => ?_)
    · rw [if_pos c2] at hf
      refine lv_iconst (v := 0) hx hb dX9_in_14 (by decide) ?_
      obtain rfl := sp1 hf
      exact e_z ⟨hx, hb, hr, hlk⟩ rfl hW hS dX9_in_15
    · rw [if_neg c2] at hf
      refine lv_iconst (v := 1) hx hb dX9_in_10 (by decide) ?_
      refine lv_goto (tgt := 15) hx hb dX9_in_11 (by decide) ?_
      obtain rfl := sp1 hf
      exact e_z ⟨hx, hb, hr, hlk⟩ rfl hW hS dX9_in_15
set_option maxRecDepth 100000 in
set_option maxHeartbeats 4000000 in
theorem k_yX9_in {p : Program} {l : Launch} {e : Env} {R : Room} {s : State} {m : MethodId} {args : Array Value} {below : List Frame} {meth : Method} {c : Code} {H : Heap} {locs : List Loc} {cells slots : Nat} {Q : State → Prop} {cc : ByteArray} {pc nL index : Nat} {ret : Option FieldType} {own : String} {ls : Array Slot} {rest : List Value} {E : Lay} {ad : Nat → Nat → Nat} {M N : Mem} (X : CX p s m args meth c cc nL ret own) (hK : KK E s) (hZ : ZZ E s) (hW : WD E ad (M, N) H) (hS : va_S (ow E) s.heap H locs) (hsz : ls.size = nL) {x0 : Int32} {x1 : Int32} {x2 : Int32} {r : Int32} (hf : f_yX9_in x0 x1 x2 = some r) (hn : Cond.methodLink own index yX9_in ∈ TB) (hR : 0 + 1 ≤ R.frames ∧ 8 + (3 + 11) + 0 ≤ R.locals) (hC : cells ≤ R.cells ∧ slots ≤ R.slots) (h8 : (rest.map fun v => v.category).sum ≤ 8) (hdg : decode cc pc = .ok (.invokestatic index, 3)) (kk : ∀ (H1 : Heap) (locs1 : List Loc), WD E ad (M, N) H1 → va_S (ow E) s.heap H1 locs1 → W p l e R s m args below meth c H1 locs1 cells slots Q (F0 m (pc + 3) ls (.int r :: rest))) : W p l e R s m args below meth c H locs cells slots Q (F0 m pc ls (.int x2 :: .int x1 :: .int x0 :: rest)) := by
  refine va_calli (va_runS (As := [.int x0, .int x1, .int x2]) (rest := rest) ⟨X.1, X.2.1, X.2.2.1, X.2.2.2.1, X.2.2.2.2.1⟩ (c_yX9_in l E ad M N x0 x1 x2 r hf) (va_cwS 3 X.2.2.2.2.1 (gS hn im_yX9_in iniRX9 cd_yX9_in) rfl rfl rfl (by decide +kernel) hR) ⟨fun a U g mk q => ⟨q.1, q.2.calling⟩, fun U hU hw => ⟨rfl, PB.at hW hK hZ hS hU hw⟩⟩ rfl rfl hsz rfl (lv_room h8) hdg hC) hS (fun _ _ h => h) (fun _ h => h) (fun r' u t H1 locs1 ht hvm hw hB hz1 hk1 hS1 => ?_)
  obtain ⟨rfl, rfl⟩ := hw
  rw [ht] at hB
  exact kk H1 locs1 hB hS1
def f_yX9_make_L53 : Nat → Mem → Int32 → Int32 → Int32 → Option (Int32 × Mem)
  | 0, _, _, _, _ => none
  | n + 1, N0, y1, y3, y4 => (if 12 ≤ y4 then lt1 (mp N0 20 0 0 ((N0 20 0 0) + 1)) (fun N9 => (some (y3, N9))) else (if y1 ≤ 5 then gd (¬ (((12 * y3) + y4) < 0 ∨ 384 ≤ ((12 * y3) + y4).toNatClampNeg)) (lt1 (mp N0 24 0 ((12 * y3) + y4).toNatClampNeg 0) (fun N12 => (f_yX9_make_L53 n N12 y1 y3 (y4 + 1)))) else gd (¬ (((12 * y3) + y4) < 0 ∨ 384 ≤ ((12 * y3) + y4).toNatClampNeg)) (lt1 (mp N0 24 0 ((12 * y3) + y4).toNatClampNeg (-4)) (fun N14 => (f_yX9_make_L53 n N14 y1 y3 (y4 + 1))))))
def f_yX9_make (N : Mem) (x1 : Int32) (x2 : Int32) : Option (Int32 × Mem) := gd (¬ ((N 20 0 0) < 0 ∨ 32 ≤ (N 20 0 0).toNatClampNeg)) (lt1 (mp N 21 0 (N 20 0 0).toNatClampNeg x1) (fun N2 => lt1 (mp N2 22 0 (N 20 0 0).toNatClampNeg 0) (fun N3 => (if x1 ≤ 3 then lt1 (mp N3 23 0 (N 20 0 0).toNatClampNeg 0) (fun N5 => lt1 (mp N5 25 0 (N 20 0 0).toNatClampNeg (-4)) (fun N6 => lt1 (mp N6 26 0 (N 20 0 0).toNatClampNeg 0) (fun N7 => (f_yX9_make_L53 70 N7 x1 (N 20 0 0) 0)))) else lt1 (mp N3 23 0 (N 20 0 0).toNatClampNeg x2) (fun N15 => lt1 (mp N15 25 0 (N 20 0 0).toNatClampNeg (-4)) (fun N16 => lt1 (mp N16 26 0 (N 20 0 0).toNatClampNeg 0) (fun N17 => (f_yX9_make_L53 70 N17 x1 (N 20 0 0) 0))))))))
set_option maxRecDepth 100000 in
set_option maxHeartbeats 4000000 in
theorem l_yX9_make_53 (l : Launch) (E : Lay) (ad : Nat → Nat → Nat) (M : Mem) {p : Program} {e : Env} {s : State} {m : MethodId} {args : Array Value} {below : List Frame} {meth : Method} {c : Code} (X : CX p s m args meth c cX9_make 5 (some .int) RX9) (hK : KK E s) (hZ : ZZ E s) : ∀ (n : Nat) (N0 : Mem) (y1 : Int32) (y3 : Int32) (y4 : Int32) (r : Int32) (Nr : Mem) (hf : f_yX9_make_L53 n N0 y1 y3 y4 = some (r, Nr)) (H : Heap) (locs : List Loc) (ls : Array Slot), WD E ad (M, N0) H → va_S (ow E) s.heap H locs → lv_has ls 5 [(0, .ref (ad 20 0)), (1, .int y1), (3, .int y3), (4, .int y4)] → W p l e (rmm 0 0) s m args below meth c H locs 0 0 (MQ below (Qi E ad r (M, Nr)) args s 0 0 (ow E)) (F0 m 53 ls []) := by
  obtain ⟨hx, hb, hml, hown, hT, hr, hlk⟩ := id X
  intro n
  induction n with
  | zero =>
    intro N0 y1 y3 y4 r Nr hf
    rw [f_yX9_make_L53] at hf
    cases hf
  | succ n ih =>
    intro N0 y1 y3 y4 r Nr hf H locs ls hW hS hl
    rw [f_yX9_make_L53] at hf
    refine lv_iload hx hb dX9_make_53 (lv_at hl 3 rfl) ?_
    refine lv_bipush (v := 12) hx hb dX9_make_55 (by decide) ?_
    refine lv_icmp_ge (tgt := 89) hx hb dX9_make_57 (by decide) (fun c8 => ?_) (fun c8 => ?_)
    · rw [if_pos c8] at hf
      refine lv_aload_n hx hb dX9_make_89 rfl (lv_at hl 0 rfl) ?_
      refine lv_dup hx hb dX9_make_90 rfl ?_
      refine g_9_0 X hK hW flRX9_111 dX9_make_91 ?_
      refine lv_iconst (v := 1) hx hb dX9_make_94 (by decide) ?_
      refine lv_iadd hx hb dX9_make_95 ?_
      obtain ⟨N9, hN9, hf⟩ := lt1_some hf
      refine p_9_0 X hK hW hS hN9 flRX9_111 dX9_make_96 (fun H locs hW hS => ?_)
      refine lv_iload_n hx hb dX9_make_99 rfl (lv_at hl 2 rfl) ?_
      obtain ⟨rfl, rfl⟩ := sp2 hf
      exact e_i ⟨hx, hb, hr, hlk⟩ hW hS dX9_make_100
    · rw [if_neg c8] at hf
      refine lv_aload_n hx hb dX9_make_60 rfl (lv_at hl 0 rfl) ?_
      refine g_9_4 X hK hW flRX9_19 dX9_make_61 ?_
      refine lv_bipush (v := 12) hx hb dX9_make_64 (by decide) ?_
      refine lv_iload_n hx hb dX9_make_66 rfl (lv_at hl 2 rfl) ?_
      refine lv_imul hx hb dX9_make_67 ?_
      refine lv_iload hx hb dX9_make_68 (lv_at hl 3 rfl) ?_
      refine lv_iadd hx hb dX9_make_70 ?_
      refine lv_iload_n hx hb dX9_make_71 rfl (lv_at hl 1 rfl) ?_
      refine lv_iconst (v := 5) hx hb dX9_make_72 (by decide) ?_
      refine lv_icmp_le (tgt := 81) hx hb dX9_make_73 (by decide) (fun c10 => ?_) (fun c10 => ?_)
      · rw [if_pos c10] at hf
        refine lv_iconst (v := 0) hx hb dX9_make_81 (by decide) ?_
        obtain ⟨b11, hf⟩ := gd_some hf
        obtain ⟨N12, hN12, hf⟩ := lt1_some hf
        refine as_24 X hK hW hS b11 hN12 dX9_make_82 (fun H locs hW hS => ?_)
        refine lv_iinc (v := (y4 + 1)) (lv' := [(4, .int (y4 + 1)), (0, .ref (ad 20 0)), (1, .int y1), (3, .int y3)]) hx hb dX9_make_83 hl (k := 3) rfl rfl (by decide) rfl (fun ls hl => ?_)
        refine lv_goto (tgt := 53) hx hb dX9_make_86 (by decide) ?_
        exact ih _ _ _ _ _ _ hf _ _ _ hW hS (lv_sub hl [1, 2, 3, 0] rfl)
      · rw [if_neg c10] at hf
        refine lv_bipush (v := -4) hx hb dX9_make_76 (by decide) ?_
        refine lv_goto (tgt := 82) hx hb dX9_make_78 (by decide) ?_
        obtain ⟨b13, hf⟩ := gd_some hf
        obtain ⟨N14, hN14, hf⟩ := lt1_some hf
        refine as_24 X hK hW hS b13 hN14 dX9_make_82 (fun H locs hW hS => ?_)
        refine lv_iinc (v := (y4 + 1)) (lv' := [(4, .int (y4 + 1)), (0, .ref (ad 20 0)), (1, .int y1), (3, .int y3)]) hx hb dX9_make_83 hl (k := 3) rfl rfl (by decide) rfl (fun ls hl => ?_)
        refine lv_goto (tgt := 53) hx hb dX9_make_86 (by decide) ?_
        exact ih _ _ _ _ _ _ hf _ _ _ hW hS (lv_sub hl [1, 2, 3, 0] rfl)
set_option maxRecDepth 100000 in
set_option maxHeartbeats 4000000 in
theorem c_yX9_make (l : Launch) (E : Lay) (ad : Nat → Nat → Nat) (M N : Mem) (x1 : Int32) (x2 : Int32) (r : Int32) (Nr : Mem) (hf : f_yX9_make N x1 x2 = some (r, Nr)) : Met l yX9_make (Cond.code yX9_make cX9_make 5 (some .int) :: TB) (rmm 0 0) (va_Pc [.ref (ad 20 0), .int x1, .int x2] (PB E ad (M, N))) (Qi E ad r (M, Nr)) 0 0 (ow E) := by
  refine Met.ofW (cc := cX9_make) (maxL := 5) (ret := (some .int)) (by decide) rfl ?_
  intro p e s m args below meth c s₁ B hml hv
  obtain ⟨rfl, hW, hK, hZ⟩ := hv
  have hT : ∀ w ∈ TB, w.before _ s = true := fun w h => atoms_spec (ws := (Cond.code yX9_make cX9_make 5 (some .int) :: TB)) B.pre w (List.mem_cons_of_mem _ h)
  have X : CX p s m _ meth c cX9_make 5 (some .int) RX9 := ⟨B.exec, B.bytes, hml, findClass_of_methodNamed B.named, hT, B.returns, B.notSynchronized⟩
  obtain ⟨hx, hb, hml, hown, hT, hr, hlk⟩ := id X
  have hS : va_S (ow E) s.heap s.heap [] := va_S.rf
  have hl := lv_entry ([.ref (ad 20 0), .int x1, .int x2]) (n := 5) (Nat.le_of_ble_eq_true rfl)
  rw [lg_entry_eq]
  generalize (lg_sl ([.ref (ad 20 0), .int x1, .int x2]) ++ List.replicate (5 - (lg_sl ([.ref (ad 20 0), .int x1, .int x2])).length) Slot.unset).toArray = ls at hl ⊢
  have hl : lv_has ls 5 [(0, .ref (ad 20 0)), (1, .int x1), (2, .int x2)] := hl
  unfold f_yX9_make at hf
  refine lv_aload_n hx hb dX9_make_0 rfl (lv_at hl 0 rfl) ?_
  refine g_9_0 X hK hW flRX9_111 dX9_make_1 ?_
  refine lv_istore_n (lv' := [(3, .int (N 20 0 0)), (0, .ref (ad 20 0)), (1, .int x1), (2, .int x2)]) hx hb dX9_make_4 rfl hl (by decide) rfl (fun ls hl => ?_)
  refine lv_aload_n hx hb dX9_make_5 rfl (lv_at hl 1 rfl) ?_
  refine g_9_1 X hK hW flRX9_7 dX9_make_6 ?_
  refine lv_iload_n hx hb dX9_make_9 rfl (lv_at hl 0 rfl) ?_
  refine lv_iload_n hx hb dX9_make_10 rfl (lv_at hl 2 rfl) ?_
  obtain ⟨b1, hf⟩ := gd_some hf
  obtain ⟨N2, hN2, hf⟩ := lt1_some hf
  refine as_21 X hK hW hS b1 hN2 dX9_make_11 (fun H locs hW hS => ?_)
  refine lv_aload_n hx hb dX9_make_12 rfl (lv_at hl 1 rfl) ?_
  refine g_9_2 X hK hW flRX9_13 dX9_make_13 ?_
  refine lv_iload_n hx hb dX9_make_16 rfl (lv_at hl 0 rfl) ?_
  refine lv_iconst (v := 0) hx hb dX9_make_17 (by decide) ?_
  obtain ⟨N3, hN3, hf⟩ := lt1_some hf
  refine as_22 X hK hW hS b1 hN3 dX9_make_18 (fun H locs hW hS => ?_)
  refine lv_aload_n hx hb dX9_make_19 rfl (lv_at hl 1 rfl) ?_
  refine g_9_3 X hK hW flRX9_16 dX9_make_20 ?_
  refine lv_iload_n hx hb dX9_make_23 rfl (lv_at hl 0 rfl) ?_
  refine lv_iload_n hx hb dX9_make_24 rfl (lv_at hl 2 rfl) ?_
  refine lv_iconst (v := 3) hx hb dX9_make_25 (by decide) ?_
  refine lv_icmp_le (tgt := 33) hx hb dX9_make_26 (by decide) (fun c4 => ?_) (fun c4 => ?_)
  · rw [if_pos c4] at hf
    refine lv_iconst (v := 0) hx hb dX9_make_33 (by decide) ?_
    obtain ⟨N5, hN5, hf⟩ := lt1_some hf
    refine as_23 X hK hW hS b1 hN5 dX9_make_34 (fun H locs hW hS => ?_)
    refine lv_aload_n hx hb dX9_make_35 rfl (lv_at hl 1 rfl) ?_
    refine g_9_5 X hK hW flRX9_22 dX9_make_36 ?_
    refine lv_iload_n hx hb dX9_make_39 rfl (lv_at hl 0 rfl) ?_
    refine lv_bipush (v := -4) hx hb dX9_make_40 (by decide) ?_
    obtain ⟨N6, hN6, hf⟩ := lt1_some hf
    refine as_25 X hK hW hS b1 hN6 dX9_make_42 (fun H locs hW hS => ?_)
    refine lv_aload_n hx hb dX9_make_43 rfl (lv_at hl 1 rfl) ?_
    refine g_9_6 X hK hW flRX9_25 dX9_make_44 ?_
    refine lv_iload_n hx hb dX9_make_47 rfl (lv_at hl 0 rfl) ?_
    refine lv_iconst (v := 0) hx hb dX9_make_48 (by decide) ?_
    obtain ⟨N7, hN7, hf⟩ := lt1_some hf
    refine as_26 X hK hW hS b1 hN7 dX9_make_49 (fun H locs hW hS => ?_)
    refine lv_iconst (v := 0) hx hb dX9_make_50 (by decide) ?_
    refine lv_istore (lv' := [(4, .int 0), (3, .int (N 20 0 0)), (0, .ref (ad 20 0)), (1, .int x1), (2, .int x2)]) hx hb dX9_make_51 hl (by decide) rfl (fun ls hl => ?_)
    exact (l_yX9_make_53 l E ad M X hK hZ 70) _ _ _ _ _ _ hf _ _ _ hW hS (lv_sub hl [2, 3, 1, 0] rfl)
  · rw [if_neg c4] at hf
    refine lv_iload_n hx hb dX9_make_29 rfl (lv_at hl 3 rfl) ?_
    refine lv_goto (tgt := 34) hx hb dX9_make_30 (by decide) ?_
    obtain ⟨N15, hN15, hf⟩ := lt1_some hf
    refine as_23 X hK hW hS b1 hN15 dX9_make_34 (fun H locs hW hS => ?_)
    refine lv_aload_n hx hb dX9_make_35 rfl (lv_at hl 1 rfl) ?_
    refine g_9_5 X hK hW flRX9_22 dX9_make_36 ?_
    refine lv_iload_n hx hb dX9_make_39 rfl (lv_at hl 0 rfl) ?_
    refine lv_bipush (v := -4) hx hb dX9_make_40 (by decide) ?_
    obtain ⟨N16, hN16, hf⟩ := lt1_some hf
    refine as_25 X hK hW hS b1 hN16 dX9_make_42 (fun H locs hW hS => ?_)
    refine lv_aload_n hx hb dX9_make_43 rfl (lv_at hl 1 rfl) ?_
    refine g_9_6 X hK hW flRX9_25 dX9_make_44 ?_
    refine lv_iload_n hx hb dX9_make_47 rfl (lv_at hl 0 rfl) ?_
    refine lv_iconst (v := 0) hx hb dX9_make_48 (by decide) ?_
    obtain ⟨N17, hN17, hf⟩ := lt1_some hf
    refine as_26 X hK hW hS b1 hN17 dX9_make_49 (fun H locs hW hS => ?_)
    refine lv_iconst (v := 0) hx hb dX9_make_50 (by decide) ?_
    refine lv_istore (lv' := [(4, .int 0), (3, .int (N 20 0 0)), (0, .ref (ad 20 0)), (1, .int x1), (2, .int x2)]) hx hb dX9_make_51 hl (by decide) rfl (fun ls hl => ?_)
    exact (l_yX9_make_53 l E ad M X hK hZ 70) _ _ _ _ _ _ hf _ _ _ hW hS (lv_sub hl [2, 3, 1, 0] rfl)
set_option maxRecDepth 100000 in
set_option maxHeartbeats 4000000 in
theorem k_yX9_make {p : Program} {l : Launch} {e : Env} {R : Room} {s : State} {m : MethodId} {args : Array Value} {below : List Frame} {meth : Method} {c : Code} {H : Heap} {locs : List Loc} {cells slots : Nat} {Q : State → Prop} {cc : ByteArray} {pc nL index : Nat} {ret : Option FieldType} {own : String} {ls : Array Slot} {rest : List Value} {E : Lay} {ad : Nat → Nat → Nat} {M N : Mem} (X : CX p s m args meth c cc nL ret own) (hK : KK E s) (hZ : ZZ E s) (hW : WD E ad (M, N) H) (hS : va_S (ow E) s.heap H locs) (hsz : ls.size = nL) {x1 : Int32} {x2 : Int32} {r : Int32} {Nr : Mem} (hf : f_yX9_make N x1 x2 = some (r, Nr)) (hn : Cond.methodLink own index yX9_make ∈ TB) (hR : 0 + 1 ≤ R.frames ∧ 8 + (5 + 11) + 0 ≤ R.locals) (hC : cells ≤ R.cells ∧ slots ≤ R.slots) (h8 : (rest.map fun v => v.category).sum ≤ 8) (hdg : decode cc pc = .ok (.invokevirtual index, 3)) (kk : ∀ (H1 : Heap) (locs1 : List Loc), WD E ad (M, Nr) H1 → va_S (ow E) s.heap H1 locs1 → W p l e R s m args below meth c H1 locs1 cells slots Q (F0 m (pc + 3) ls (.int r :: rest))) : W p l e R s m args below meth c H locs cells slots Q (F0 m pc ls (.int x2 :: .int x1 :: .ref (ad 20 0) :: rest)) := by
  refine va_calli (va_runV (C := RX9) (As := [.int x1, .int x2]) (rest := rest) ⟨X.1, X.2.1, X.2.2.1, X.2.2.2.1, X.2.2.2.2.1⟩ (c_yX9_make l E ad M N x1 x2 r Nr hf) (cwV 2 X.2.2.2.2.1 (gV hn im_yX9_make se_yX9_make iniRX9 cd_yX9_make) rfl rfl rfl (by decide +kernel) hR) ⟨fun a U g mk q => ⟨q.1, q.2.calling⟩, va_recv hK.1 (hW.at (c := 20) (i := 0) Nat.zero_lt_one rfl) (ci := 9) (q0 := 0) rfl rfl, fun U hU hw => ⟨rfl, PB.at hW hK hZ hS hU hw⟩⟩ rfl rfl hsz rfl (lv_room h8) hdg hC) hS (fun _ _ h => h) (fun _ h => h) (fun r' u t H1 locs1 ht hvm hw hB hz1 hk1 hS1 => ?_)
  obtain ⟨rfl, rfl⟩ := hw
  rw [ht] at hB
  exact kk H1 locs1 hB hS1
def f_yX9_thing (N : Mem) (x1 : Int32) (x2 : Int32) : Option (Int32 × Mem) := ob1 (f_yX9_in x1 0 7) (fun r2 => (if r2 = 0 then (some ((-1), N)) else (if x1 ≤ 3 then (if (N 20 0 0) = 32 then (some ((-3), N)) else ob2 (f_yX9_make N x1 x2) (fun r7 N8 => (some (r7, N8)))) else ob1 (f_yX9_in x2 0 12) (fun r10 => (if r10 = 0 then (some ((-1), N)) else (if (N 20 0 0) = 32 then (some ((-3), N)) else ob2 (f_yX9_make N x1 x2) (fun r14 N15 => (some (r14, N15)))))))))
set_option maxRecDepth 100000 in
set_option maxHeartbeats 4000000 in
theorem c_yX9_thing (l : Launch) (E : Lay) (ad : Nat → Nat → Nat) (M N : Mem) (x1 : Int32) (x2 : Int32) (r : Int32) (Nr : Mem) (hf : f_yX9_thing N x1 x2 = some (r, Nr)) : Met l yX9_thing (Cond.code yX9_thing cX9_thing 3 (some .int) :: TB) (rmm 1 24) (va_Pc [.ref (ad 20 0), .int x1, .int x2] (PB E ad (M, N))) (Qi E ad r (M, Nr)) 0 0 (ow E) := by
  refine Met.ofW (cc := cX9_thing) (maxL := 3) (ret := (some .int)) (by decide) rfl ?_
  intro p e s m args below meth c s₁ B hml hv
  obtain ⟨rfl, hW, hK, hZ⟩ := hv
  have hT : ∀ w ∈ TB, w.before _ s = true := fun w h => atoms_spec (ws := (Cond.code yX9_thing cX9_thing 3 (some .int) :: TB)) B.pre w (List.mem_cons_of_mem _ h)
  have X : CX p s m _ meth c cX9_thing 3 (some .int) RX9 := ⟨B.exec, B.bytes, hml, findClass_of_methodNamed B.named, hT, B.returns, B.notSynchronized⟩
  obtain ⟨hx, hb, hml, hown, hT, hr, hlk⟩ := id X
  have hS : va_S (ow E) s.heap s.heap [] := va_S.rf
  have hl := lv_entry ([.ref (ad 20 0), .int x1, .int x2]) (n := 3) (Nat.le_of_ble_eq_true rfl)
  rw [lg_entry_eq]
  generalize (lg_sl ([.ref (ad 20 0), .int x1, .int x2]) ++ List.replicate (3 - (lg_sl ([.ref (ad 20 0), .int x1, .int x2])).length) Slot.unset).toArray = ls at hl ⊢
  have hl : lv_has ls 3 [(0, .ref (ad 20 0)), (1, .int x1), (2, .int x2)] := hl
  unfold f_yX9_thing at hf
  refine lv_iload_n hx hb dX9_thing_0 rfl (lv_at hl 1 rfl) ?_
  refine lv_iconst (v := 0) hx hb dX9_thing_1 (by decide) ?_
  refine lv_bipush (v := 7) hx hb dX9_thing_2 (by decide) ?_
  obtain ⟨r2, h1, hf⟩ := ob1_some hf
  refine k_yX9_in X hK hZ hW hS hl.1 h1 mlRX9_114 ⟨Nat.le_of_ble_eq_true rfl, Nat.le_of_ble_eq_true rfl⟩ ⟨Nat.le_of_ble_eq_true rfl, Nat.le_of_ble_eq_true rfl⟩ (Nat.le_of_ble_eq_true rfl) dX9_thing_4 (fun H locs hW hS => ?_)
  refine lv_if_eq (tgt := 25) hx hb dX9_thing_7 (by decide) (fun c3 => ?_) (fun c3 => ?_)
  · rw [if_pos c3] at hf
    refine lv_iconst (v := -1) hx hb dX9_thing_25 (by decide) ?_
    obtain ⟨rfl, rfl⟩ := sp2 hf
    exact e_i ⟨hx, hb, hr, hlk⟩ hW hS dX9_thing_26
  · rw [if_neg c3] at hf
    refine lv_iload_n hx hb dX9_thing_10 rfl (lv_at hl 1 rfl) ?_
    refine lv_iconst (v := 3) hx hb dX9_thing_11 (by decide) ?_
    refine lv_icmp_le (tgt := 27) hx hb dX9_thing_12 (by decide) (fun c4 => ?_) (fun c4 => ?_)
    · rw [if_pos c4] at hf
      refine lv_aload_n hx hb dX9_thing_27 rfl (lv_at hl 0 rfl) ?_
      refine g_9_0 X hK hW flRX9_111 dX9_thing_28 ?_
      refine lv_bipush (v := 32) hx hb dX9_thing_31 (by decide) ?_
      refine lv_icmp_ne (tgt := 41) hx hb dX9_thing_33 (by decide) (fun c5 => ?_) (fun c5 => ?_)
      · rw [if_neg c5] at hf
        refine lv_aload_n hx hb dX9_thing_41 rfl (lv_at hl 0 rfl) ?_
        refine lv_iload_n hx hb dX9_thing_42 rfl (lv_at hl 1 rfl) ?_
        refine lv_iload_n hx hb dX9_thing_43 rfl (lv_at hl 2 rfl) ?_
        obtain ⟨r7, N8, h6, hf⟩ := ob2_some hf
        refine k_yX9_make X hK hZ hW hS hl.1 h6 mlRX9_118 ⟨Nat.le_of_ble_eq_true rfl, Nat.le_of_ble_eq_true rfl⟩ ⟨Nat.le_of_ble_eq_true rfl, Nat.le_of_ble_eq_true rfl⟩ (Nat.le_of_ble_eq_true rfl) dX9_thing_44 (fun H locs hW hS => ?_)
        obtain ⟨rfl, rfl⟩ := sp2 hf
        exact e_i ⟨hx, hb, hr, hlk⟩ hW hS dX9_thing_47
      · rw [if_pos c5] at hf
        refine lv_bipush (v := -3) hx hb dX9_thing_36 (by decide) ?_
        refine lv_goto (tgt := 47) hx hb dX9_thing_38 (by decide) ?_
        obtain ⟨rfl, rfl⟩ := sp2 hf
        exact e_i ⟨hx, hb, hr, hlk⟩ hW hS dX9_thing_47
    · rw [if_neg c4] at hf
      refine lv_iload_n hx hb dX9_thing_15 rfl (lv_at hl 2 rfl) ?_
      refine lv_iconst (v := 0) hx hb dX9_thing_16 (by decide) ?_
      refine lv_bipush (v := 12) hx hb dX9_thing_17 (by decide) ?_
      obtain ⟨r10, h9, hf⟩ := ob1_some hf
      refine k_yX9_in X hK hZ hW hS hl.1 h9 mlRX9_114 ⟨Nat.le_of_ble_eq_true rfl, Nat.le_of_ble_eq_true rfl⟩ ⟨Nat.le_of_ble_eq_true rfl, Nat.le_of_ble_eq_true rfl⟩ (Nat.le_of_ble_eq_true rfl) dX9_thing_19 (fun H locs hW hS => ?_)
      refine lv_if_ne (tgt := 27) hx hb dX9_thing_22 (by decide) (fun c11 => ?_) (fun c11 => ?_)
      · rw [if_neg c11] at hf
        refine lv_aload_n hx hb dX9_thing_27 rfl (lv_at hl 0 rfl) ?_
        refine g_9_0 X hK hW flRX9_111 dX9_thing_28 ?_
        refine lv_bipush (v := 32) hx hb dX9_thing_31 (by decide) ?_
        refine lv_icmp_ne (tgt := 41) hx hb dX9_thing_33 (by decide) (fun c12 => ?_) (fun c12 => ?_)
        · rw [if_neg c12] at hf
          refine lv_aload_n hx hb dX9_thing_41 rfl (lv_at hl 0 rfl) ?_
          refine lv_iload_n hx hb dX9_thing_42 rfl (lv_at hl 1 rfl) ?_
          refine lv_iload_n hx hb dX9_thing_43 rfl (lv_at hl 2 rfl) ?_
          obtain ⟨r14, N15, h13, hf⟩ := ob2_some hf
          refine k_yX9_make X hK hZ hW hS hl.1 h13 mlRX9_118 ⟨Nat.le_of_ble_eq_true rfl, Nat.le_of_ble_eq_true rfl⟩ ⟨Nat.le_of_ble_eq_true rfl, Nat.le_of_ble_eq_true rfl⟩ (Nat.le_of_ble_eq_true rfl) dX9_thing_44 (fun H locs hW hS => ?_)
          obtain ⟨rfl, rfl⟩ := sp2 hf
          exact e_i ⟨hx, hb, hr, hlk⟩ hW hS dX9_thing_47
        · rw [if_pos c12] at hf
          refine lv_bipush (v := -3) hx hb dX9_thing_36 (by decide) ?_
          refine lv_goto (tgt := 47) hx hb dX9_thing_38 (by decide) ?_
          obtain ⟨rfl, rfl⟩ := sp2 hf
          exact e_i ⟨hx, hb, hr, hlk⟩ hW hS dX9_thing_47
      · rw [if_pos c11] at hf
        refine lv_iconst (v := -1) hx hb dX9_thing_25 (by decide) ?_
        obtain ⟨rfl, rfl⟩ := sp2 hf
        exact e_i ⟨hx, hb, hr, hlk⟩ hW hS dX9_thing_26
set_option maxRecDepth 100000 in
set_option maxHeartbeats 4000000 in
theorem k_yX9_thing {p : Program} {l : Launch} {e : Env} {R : Room} {s : State} {m : MethodId} {args : Array Value} {below : List Frame} {meth : Method} {c : Code} {H : Heap} {locs : List Loc} {cells slots : Nat} {Q : State → Prop} {cc : ByteArray} {pc nL index : Nat} {ret : Option FieldType} {own : String} {ls : Array Slot} {rest : List Value} {E : Lay} {ad : Nat → Nat → Nat} {M N : Mem} (X : CX p s m args meth c cc nL ret own) (hK : KK E s) (hZ : ZZ E s) (hW : WD E ad (M, N) H) (hS : va_S (ow E) s.heap H locs) (hsz : ls.size = nL) {x1 : Int32} {x2 : Int32} {r : Int32} {Nr : Mem} (hf : f_yX9_thing N x1 x2 = some (r, Nr)) (hn : Cond.methodLink own index yX9_thing ∈ TB) (hR : 1 + 1 ≤ R.frames ∧ 8 + (3 + 11) + 24 ≤ R.locals) (hC : cells ≤ R.cells ∧ slots ≤ R.slots) (h8 : (rest.map fun v => v.category).sum ≤ 8) (hdg : decode cc pc = .ok (.invokevirtual index, 3)) (kk : ∀ (H1 : Heap) (locs1 : List Loc), WD E ad (M, Nr) H1 → va_S (ow E) s.heap H1 locs1 → W p l e R s m args below meth c H1 locs1 cells slots Q (F0 m (pc + 3) ls (.int r :: rest))) : W p l e R s m args below meth c H locs cells slots Q (F0 m pc ls (.int x2 :: .int x1 :: .ref (ad 20 0) :: rest)) := by
  refine va_calli (va_runV (C := RX9) (As := [.int x1, .int x2]) (rest := rest) ⟨X.1, X.2.1, X.2.2.1, X.2.2.2.1, X.2.2.2.2.1⟩ (c_yX9_thing l E ad M N x1 x2 r Nr hf) (cwV 2 X.2.2.2.2.1 (gV hn im_yX9_thing se_yX9_thing iniRX9 cd_yX9_thing) rfl rfl rfl (by decide +kernel) hR) ⟨fun a U g mk q => ⟨q.1, q.2.calling⟩, va_recv hK.1 (hW.at (c := 20) (i := 0) Nat.zero_lt_one rfl) (ci := 9) (q0 := 0) rfl rfl, fun U hU hw => ⟨rfl, PB.at hW hK hZ hS hU hw⟩⟩ rfl rfl hsz rfl (lv_room h8) hdg hC) hS (fun _ _ h => h) (fun _ h => h) (fun r' u t H1 locs1 ht hvm hw hB hz1 hk1 hS1 => ?_)
  obtain ⟨rfl, rfl⟩ := hw
  rw [ht] at hB
  exact kk H1 locs1 hB hS1
def f_yX9_isThing (N : Mem) (x1 : Int32) : Option (Int32) := ob1 (f_yX9_in x1 0 ((N 20 0 0) - 1)) (fun r2 => gd (r2 = 0 ∨ r2 = 1) ((some r2)))
set_option maxRecDepth 100000 in
set_option maxHeartbeats 4000000 in
theorem c_yX9_isThing (l : Launch) (E : Lay) (ad : Nat → Nat → Nat) (M N : Mem) (x1 : Int32) (r : Int32) (hf : f_yX9_isThing N x1 = some r) : Met l yX9_isThing (Cond.code yX9_isThing cX9_isThing 2 (some .boolean) :: TB) (rmm 1 22) (va_Pc [.ref (ad 20 0), .int x1] (PB E ad (M, N))) (Qi E ad r (M, N)) 0 0 (ow E) := by
  refine Met.ofW (cc := cX9_isThing) (maxL := 2) (ret := (some .boolean)) (by decide) rfl ?_
  intro p e s m args below meth c s₁ B hml hv
  obtain ⟨rfl, hW, hK, hZ⟩ := hv
  have hT : ∀ w ∈ TB, w.before _ s = true := fun w h => atoms_spec (ws := (Cond.code yX9_isThing cX9_isThing 2 (some .boolean) :: TB)) B.pre w (List.mem_cons_of_mem _ h)
  have X : CX p s m _ meth c cX9_isThing 2 (some .boolean) RX9 := ⟨B.exec, B.bytes, hml, findClass_of_methodNamed B.named, hT, B.returns, B.notSynchronized⟩
  obtain ⟨hx, hb, hml, hown, hT, hr, hlk⟩ := id X
  have hS : va_S (ow E) s.heap s.heap [] := va_S.rf
  have hl := lv_entry ([.ref (ad 20 0), .int x1]) (n := 2) (Nat.le_of_ble_eq_true rfl)
  rw [lg_entry_eq]
  generalize (lg_sl ([.ref (ad 20 0), .int x1]) ++ List.replicate (2 - (lg_sl ([.ref (ad 20 0), .int x1])).length) Slot.unset).toArray = ls at hl ⊢
  have hl : lv_has ls 2 [(0, .ref (ad 20 0)), (1, .int x1)] := hl
  unfold f_yX9_isThing at hf
  refine lv_iload_n hx hb dX9_isThing_0 rfl (lv_at hl 1 rfl) ?_
  refine lv_iconst (v := 0) hx hb dX9_isThing_1 (by decide) ?_
  refine lv_aload_n hx hb dX9_isThing_2 rfl (lv_at hl 0 rfl) ?_
  refine g_9_0 X hK hW flRX9_111 dX9_isThing_3 ?_
  refine lv_iconst (v := 1) hx hb dX9_isThing_6 (by decide) ?_
  refine lv_isub hx hb dX9_isThing_7 ?_
  obtain ⟨r2, h1, hf⟩ := ob1_some hf
  refine k_yX9_in X hK hZ hW hS hl.1 h1 mlRX9_114 ⟨Nat.le_of_ble_eq_true rfl, Nat.le_of_ble_eq_true rfl⟩ ⟨Nat.le_of_ble_eq_true rfl, Nat.le_of_ble_eq_true rfl⟩ (Nat.le_of_ble_eq_true rfl) dX9_isThing_8 (fun H locs hW hS => ?_)
  obtain ⟨z3, hf⟩ := gd_some hf
  obtain rfl := sp1 hf
  exact e_z ⟨hx, hb, hr, hlk⟩ (zn_ok z3) hW hS dX9_isThing_11
set_option maxRecDepth 100000 in
set_option maxHeartbeats 4000000 in
theorem k_yX9_isThing {p : Program} {l : Launch} {e : Env} {R : Room} {s : State} {m : MethodId} {args : Array Value} {below : List Frame} {meth : Method} {c : Code} {H : Heap} {locs : List Loc} {cells slots : Nat} {Q : State → Prop} {cc : ByteArray} {pc nL index : Nat} {ret : Option FieldType} {own : String} {ls : Array Slot} {rest : List Value} {E : Lay} {ad : Nat → Nat → Nat} {M N : Mem} (X : CX p s m args meth c cc nL ret own) (hK : KK E s) (hZ : ZZ E s) (hW : WD E ad (M, N) H) (hS : va_S (ow E) s.heap H locs) (hsz : ls.size = nL) {x1 : Int32} {r : Int32} (hf : f_yX9_isThing N x1 = some r) (hn : Cond.methodLink own index yX9_isThing ∈ TB) (hR : 1 + 1 ≤ R.frames ∧ 8 + (2 + 11) + 22 ≤ R.locals) (hC : cells ≤ R.cells ∧ slots ≤ R.slots) (h8 : (rest.map fun v => v.category).sum ≤ 8) (hdg : decode cc pc = .ok (.invokevirtual index, 3)) (kk : ∀ (H1 : Heap) (locs1 : List Loc), WD E ad (M, N) H1 → va_S (ow E) s.heap H1 locs1 → W p l e R s m args below meth c H1 locs1 cells slots Q (F0 m (pc + 3) ls (.int r :: rest))) : W p l e R s m args below meth c H locs cells slots Q (F0 m pc ls (.int x1 :: .ref (ad 20 0) :: rest)) := by
  refine va_calli (va_runV (C := RX9) (As := [.int x1]) (rest := rest) ⟨X.1, X.2.1, X.2.2.1, X.2.2.2.1, X.2.2.2.2.1⟩ (c_yX9_isThing l E ad M N x1 r hf) (cwV 1 X.2.2.2.2.1 (gV hn im_yX9_isThing se_yX9_isThing iniRX9 cd_yX9_isThing) rfl rfl rfl (by decide +kernel) hR) ⟨fun a U g mk q => ⟨q.1, q.2.calling⟩, va_recv hK.1 (hW.at (c := 20) (i := 0) Nat.zero_lt_one rfl) (ci := 9) (q0 := 0) rfl rfl, fun U hU hw => ⟨rfl, PB.at hW hK hZ hS hU hw⟩⟩ rfl rfl hsz rfl (lv_room h8) hdg hC) hS (fun _ _ h => h) (fun _ h => h) (fun r' u t H1 locs1 ht hvm hw hB hz1 hk1 hS1 => ?_)
  obtain ⟨rfl, rfl⟩ := hw
  rw [ht] at hB
  exact kk H1 locs1 hB hS1
def f_yX9_isBox (N : Mem) (x1 : Int32) : Option (Int32) := gd (¬ (x1 < 0 ∨ 32 ≤ x1.toNatClampNeg)) (ob1 (f_yX9_in (N 21 0 x1.toNatClampNeg) 1 3) (fun r3 => gd (r3 = 0 ∨ r3 = 1) ((some r3))))
set_option maxRecDepth 100000 in
set_option maxHeartbeats 4000000 in
theorem c_yX9_isBox (l : Launch) (E : Lay) (ad : Nat → Nat → Nat) (M N : Mem) (x1 : Int32) (r : Int32) (hf : f_yX9_isBox N x1 = some r) : Met l yX9_isBox (Cond.code yX9_isBox cX9_isBox 2 (some .boolean) :: TB) (rmm 1 22) (va_Pc [.ref (ad 20 0), .int x1] (PB E ad (M, N))) (Qi E ad r (M, N)) 0 0 (ow E) := by
  refine Met.ofW (cc := cX9_isBox) (maxL := 2) (ret := (some .boolean)) (by decide) rfl ?_
  intro p e s m args below meth c s₁ B hml hv
  obtain ⟨rfl, hW, hK, hZ⟩ := hv
  have hT : ∀ w ∈ TB, w.before _ s = true := fun w h => atoms_spec (ws := (Cond.code yX9_isBox cX9_isBox 2 (some .boolean) :: TB)) B.pre w (List.mem_cons_of_mem _ h)
  have X : CX p s m _ meth c cX9_isBox 2 (some .boolean) RX9 := ⟨B.exec, B.bytes, hml, findClass_of_methodNamed B.named, hT, B.returns, B.notSynchronized⟩
  obtain ⟨hx, hb, hml, hown, hT, hr, hlk⟩ := id X
  have hS : va_S (ow E) s.heap s.heap [] := va_S.rf
  have hl := lv_entry ([.ref (ad 20 0), .int x1]) (n := 2) (Nat.le_of_ble_eq_true rfl)
  rw [lg_entry_eq]
  generalize (lg_sl ([.ref (ad 20 0), .int x1]) ++ List.replicate (2 - (lg_sl ([.ref (ad 20 0), .int x1])).length) Slot.unset).toArray = ls at hl ⊢
  have hl : lv_has ls 2 [(0, .ref (ad 20 0)), (1, .int x1)] := hl
  unfold f_yX9_isBox at hf
  refine lv_aload_n hx hb dX9_isBox_0 rfl (lv_at hl 0 rfl) ?_
  refine g_9_1 X hK hW flRX9_7 dX9_isBox_1 ?_
  refine lv_iload_n hx hb dX9_isBox_4 rfl (lv_at hl 1 rfl) ?_
  obtain ⟨b1, hf⟩ := gd_some hf
  refine al_21 X hK hW b1 dX9_isBox_5 ?_
  refine lv_iconst (v := 1) hx hb dX9_isBox_6 (by decide) ?_
  refine lv_iconst (v := 3) hx hb dX9_isBox_7 (by decide) ?_
  obtain ⟨r3, h2, hf⟩ := ob1_some hf
  refine k_yX9_in X hK hZ hW hS hl.1 h2 mlRX9_114 ⟨Nat.le_of_ble_eq_true rfl, Nat.le_of_ble_eq_true rfl⟩ ⟨Nat.le_of_ble_eq_true rfl, Nat.le_of_ble_eq_true rfl⟩ (Nat.le_of_ble_eq_true rfl) dX9_isBox_8 (fun H locs hW hS => ?_)
  obtain ⟨z4, hf⟩ := gd_some hf
  obtain rfl := sp1 hf
  exact e_z ⟨hx, hb, hr, hlk⟩ (zn_ok z4) hW hS dX9_isBox_11
set_option maxRecDepth 100000 in
set_option maxHeartbeats 4000000 in
theorem k_yX9_isBox {p : Program} {l : Launch} {e : Env} {R : Room} {s : State} {m : MethodId} {args : Array Value} {below : List Frame} {meth : Method} {c : Code} {H : Heap} {locs : List Loc} {cells slots : Nat} {Q : State → Prop} {cc : ByteArray} {pc nL index : Nat} {ret : Option FieldType} {own : String} {ls : Array Slot} {rest : List Value} {E : Lay} {ad : Nat → Nat → Nat} {M N : Mem} (X : CX p s m args meth c cc nL ret own) (hK : KK E s) (hZ : ZZ E s) (hW : WD E ad (M, N) H) (hS : va_S (ow E) s.heap H locs) (hsz : ls.size = nL) {x1 : Int32} {r : Int32} (hf : f_yX9_isBox N x1 = some r) (hn : Cond.methodLink own index yX9_isBox ∈ TB) (hR : 1 + 1 ≤ R.frames ∧ 8 + (2 + 11) + 22 ≤ R.locals) (hC : cells ≤ R.cells ∧ slots ≤ R.slots) (h8 : (rest.map fun v => v.category).sum ≤ 8) (hdg : decode cc pc = .ok (.invokevirtual index, 3)) (kk : ∀ (H1 : Heap) (locs1 : List Loc), WD E ad (M, N) H1 → va_S (ow E) s.heap H1 locs1 → W p l e R s m args below meth c H1 locs1 cells slots Q (F0 m (pc + 3) ls (.int r :: rest))) : W p l e R s m args below meth c H locs cells slots Q (F0 m pc ls (.int x1 :: .ref (ad 20 0) :: rest)) := by
  refine va_calli (va_runV (C := RX9) (As := [.int x1]) (rest := rest) ⟨X.1, X.2.1, X.2.2.1, X.2.2.2.1, X.2.2.2.2.1⟩ (c_yX9_isBox l E ad M N x1 r hf) (cwV 1 X.2.2.2.2.1 (gV hn im_yX9_isBox se_yX9_isBox iniRX9 cd_yX9_isBox) rfl rfl rfl (by decide +kernel) hR) ⟨fun a U g mk q => ⟨q.1, q.2.calling⟩, va_recv hK.1 (hW.at (c := 20) (i := 0) Nat.zero_lt_one rfl) (ci := 9) (q0 := 0) rfl rfl, fun U hU hw => ⟨rfl, PB.at hW hK hZ hS hU hw⟩⟩ rfl rfl hsz rfl (lv_room h8) hdg hC) hS (fun _ _ h => h) (fun _ h => h) (fun r' u t H1 locs1 ht hvm hw hB hz1 hk1 hS1 => ?_)
  obtain ⟨rfl, rfl⟩ := hw
  rw [ht] at hB
  exact kk H1 locs1 hB hS1
def f_yX9_howMany_L5 : Nat → Mem → Int32 → Int32 → Int32 → Int32 → Option (Int32)
  | 0, _, _, _, _, _ => none
  | n + 1, N0, y1, y2, y3, y4 => (if 6 ≤ y4 then (some y3) else gd (¬ (y4 < 0 ∨ 6 ≤ y4.toNatClampNeg)) ((if (N0 31 0 y4.toNatClampNeg) = y2 then (if (N0 39 0 y4.toNatClampNeg) = y1 then (f_yX9_howMany_L5 n N0 y1 y2 (y3 + 1) (y4 + 1)) else (f_yX9_howMany_L5 n N0 y1 y2 (y3 + 0) (y4 + 1))) else (f_yX9_howMany_L5 n N0 y1 y2 (y3 + 0) (y4 + 1)))))
def f_yX9_howMany (N : Mem) (x1 : Int32) (x2 : Int32) : Option (Int32) := (f_yX9_howMany_L5 70 N x1 x2 0 0)
set_option maxRecDepth 100000 in
set_option maxHeartbeats 4000000 in
theorem l_yX9_howMany_5 (l : Launch) (E : Lay) (ad : Nat → Nat → Nat) (M : Mem) {p : Program} {e : Env} {s : State} {m : MethodId} {args : Array Value} {below : List Frame} {meth : Method} {c : Code} (X : CX p s m args meth c cX9_howMany 5 (some .int) RX9) (hK : KK E s) (hZ : ZZ E s) : ∀ (n : Nat) (N0 : Mem) (y1 : Int32) (y2 : Int32) (y3 : Int32) (y4 : Int32) (r : Int32) (hf : f_yX9_howMany_L5 n N0 y1 y2 y3 y4 = some r) (H : Heap) (locs : List Loc) (ls : Array Slot), WD E ad (M, N0) H → va_S (ow E) s.heap H locs → lv_has ls 5 [(0, .ref (ad 20 0)), (1, .int y1), (2, .int y2), (3, .int y3), (4, .int y4)] → W p l e (rmm 0 0) s m args below meth c H locs 0 0 (MQ below (Qi E ad r (M, N0)) args s 0 0 (ow E)) (F0 m 5 ls []) := by
  obtain ⟨hx, hb, hml, hown, hT, hr, hlk⟩ := id X
  intro n
  induction n with
  | zero =>
    intro N0 y1 y2 y3 y4 r hf
    rw [f_yX9_howMany_L5] at hf
    cases hf
  | succ n ih =>
    intro N0 y1 y2 y3 y4 r hf H locs ls hW hS hl
    rw [f_yX9_howMany_L5] at hf
    refine lv_iload hx hb dX9_howMany_5 (lv_at hl 4 rfl) ?_
    refine lv_bipush (v := 6) hx hb dX9_howMany_7 (by decide) ?_
    refine lv_icmp_ge (tgt := 48) hx hb dX9_howMany_9 (by decide) (fun c1 => ?_) (fun c1 => ?_)
    · rw [if_pos c1] at hf
      refine lv_iload_n hx hb dX9_howMany_48 rfl (lv_at hl 3 rfl) ?_
      obtain rfl := sp1 hf
      exact e_i ⟨hx, hb, hr, hlk⟩ hW hS dX9_howMany_49
    · rw [if_neg c1] at hf
      refine lv_iload_n hx hb dX9_howMany_12 rfl (lv_at hl 3 rfl) ?_
      refine lv_aload_n hx hb dX9_howMany_13 rfl (lv_at hl 0 rfl) ?_
      refine g_9_12 X hK hW flRX9_40 dX9_howMany_14 ?_
      refine lv_iload hx hb dX9_howMany_17 (lv_at hl 4 rfl) ?_
      obtain ⟨b2, hf⟩ := gd_some hf
      refine al_31 X hK hW b2 dX9_howMany_19 ?_
      refine lv_iload_n hx hb dX9_howMany_20 rfl (lv_at hl 2 rfl) ?_
      refine lv_icmp_ne (tgt := 39) hx hb dX9_howMany_21 (by decide) (fun c3 => ?_) (fun c3 => ?_)
      · rw [if_neg c3] at hf
        refine lv_iconst (v := 0) hx hb dX9_howMany_39 (by decide) ?_
        refine lv_iadd hx hb dX9_howMany_40 ?_
        refine lv_istore_n (lv' := [(3, .int (y3 + 0)), (0, .ref (ad 20 0)), (1, .int y1), (2, .int y2), (4, .int y4)]) hx hb dX9_howMany_41 rfl hl (by decide) rfl (fun ls hl => ?_)
        refine lv_iinc (v := (y4 + 1)) (lv' := [(4, .int (y4 + 1)), (3, .int (y3 + 0)), (0, .ref (ad 20 0)), (1, .int y1), (2, .int y2)]) hx hb dX9_howMany_42 hl (k := 4) rfl rfl (by decide) rfl (fun ls hl => ?_)
        refine lv_goto (tgt := 5) hx hb dX9_howMany_45 (by decide) ?_
        exact ih _ _ _ _ _ _ hf _ _ _ hW hS (lv_sub hl [2, 3, 4, 1, 0] rfl)
      · rw [if_pos c3] at hf
        refine lv_aload_n hx hb dX9_howMany_24 rfl (lv_at hl 0 rfl) ?_
        refine g_9_20 X hK hW flRX9_65 dX9_howMany_25 ?_
        refine lv_iload hx hb dX9_howMany_28 (lv_at hl 4 rfl) ?_
        refine al_39 X hK hW b2 dX9_howMany_30 ?_
        refine lv_iload_n hx hb dX9_howMany_31 rfl (lv_at hl 1 rfl) ?_
        refine lv_icmp_ne (tgt := 39) hx hb dX9_howMany_32 (by decide) (fun c4 => ?_) (fun c4 => ?_)
        · rw [if_neg c4] at hf
          refine lv_iconst (v := 0) hx hb dX9_howMany_39 (by decide) ?_
          refine lv_iadd hx hb dX9_howMany_40 ?_
          refine lv_istore_n (lv' := [(3, .int (y3 + 0)), (0, .ref (ad 20 0)), (1, .int y1), (2, .int y2), (4, .int y4)]) hx hb dX9_howMany_41 rfl hl (by decide) rfl (fun ls hl => ?_)
          refine lv_iinc (v := (y4 + 1)) (lv' := [(4, .int (y4 + 1)), (3, .int (y3 + 0)), (0, .ref (ad 20 0)), (1, .int y1), (2, .int y2)]) hx hb dX9_howMany_42 hl (k := 4) rfl rfl (by decide) rfl (fun ls hl => ?_)
          refine lv_goto (tgt := 5) hx hb dX9_howMany_45 (by decide) ?_
          exact ih _ _ _ _ _ _ hf _ _ _ hW hS (lv_sub hl [2, 3, 4, 1, 0] rfl)
        · rw [if_pos c4] at hf
          refine lv_iconst (v := 1) hx hb dX9_howMany_35 (by decide) ?_
          refine lv_goto (tgt := 40) hx hb dX9_howMany_36 (by decide) ?_
          refine lv_iadd hx hb dX9_howMany_40 ?_
          refine lv_istore_n (lv' := [(3, .int (y3 + 1)), (0, .ref (ad 20 0)), (1, .int y1), (2, .int y2), (4, .int y4)]) hx hb dX9_howMany_41 rfl hl (by decide) rfl (fun ls hl => ?_)
          refine lv_iinc (v := (y4 + 1)) (lv' := [(4, .int (y4 + 1)), (3, .int (y3 + 1)), (0, .ref (ad 20 0)), (1, .int y1), (2, .int y2)]) hx hb dX9_howMany_42 hl (k := 4) rfl rfl (by decide) rfl (fun ls hl => ?_)
          refine lv_goto (tgt := 5) hx hb dX9_howMany_45 (by decide) ?_
          exact ih _ _ _ _ _ _ hf _ _ _ hW hS (lv_sub hl [2, 3, 4, 1, 0] rfl)
set_option maxRecDepth 100000 in
set_option maxHeartbeats 4000000 in
theorem c_yX9_howMany (l : Launch) (E : Lay) (ad : Nat → Nat → Nat) (M N : Mem) (x1 : Int32) (x2 : Int32) (r : Int32) (hf : f_yX9_howMany N x1 x2 = some r) : Met l yX9_howMany (Cond.code yX9_howMany cX9_howMany 5 (some .int) :: TB) (rmm 0 0) (va_Pc [.ref (ad 20 0), .int x1, .int x2] (PB E ad (M, N))) (Qi E ad r (M, N)) 0 0 (ow E) := by
  refine Met.ofW (cc := cX9_howMany) (maxL := 5) (ret := (some .int)) (by decide) rfl ?_
  intro p e s m args below meth c s₁ B hml hv
  obtain ⟨rfl, hW, hK, hZ⟩ := hv
  have hT : ∀ w ∈ TB, w.before _ s = true := fun w h => atoms_spec (ws := (Cond.code yX9_howMany cX9_howMany 5 (some .int) :: TB)) B.pre w (List.mem_cons_of_mem _ h)
  have X : CX p s m _ meth c cX9_howMany 5 (some .int) RX9 := ⟨B.exec, B.bytes, hml, findClass_of_methodNamed B.named, hT, B.returns, B.notSynchronized⟩
  obtain ⟨hx, hb, hml, hown, hT, hr, hlk⟩ := id X
  have hS : va_S (ow E) s.heap s.heap [] := va_S.rf
  have hl := lv_entry ([.ref (ad 20 0), .int x1, .int x2]) (n := 5) (Nat.le_of_ble_eq_true rfl)
  rw [lg_entry_eq]
  generalize (lg_sl ([.ref (ad 20 0), .int x1, .int x2]) ++ List.replicate (5 - (lg_sl ([.ref (ad 20 0), .int x1, .int x2])).length) Slot.unset).toArray = ls at hl ⊢
  have hl : lv_has ls 5 [(0, .ref (ad 20 0)), (1, .int x1), (2, .int x2)] := hl
  unfold f_yX9_howMany at hf
  refine lv_iconst (v := 0) hx hb dX9_howMany_0 (by decide) ?_
  refine lv_istore_n (lv' := [(3, .int 0), (0, .ref (ad 20 0)), (1, .int x1), (2, .int x2)]) hx hb dX9_howMany_1 rfl hl (by decide) rfl (fun ls hl => ?_)
  refine lv_iconst (v := 0) hx hb dX9_howMany_2 (by decide) ?_
  refine lv_istore (lv' := [(4, .int 0), (3, .int 0), (0, .ref (ad 20 0)), (1, .int x1), (2, .int x2)]) hx hb dX9_howMany_3 hl (by decide) rfl (fun ls hl => ?_)
  exact (l_yX9_howMany_5 l E ad M X hK hZ 70) _ _ _ _ _ _ hf _ _ _ hW hS (lv_sub hl [2, 3, 4, 1, 0] rfl)
set_option maxRecDepth 100000 in
set_option maxHeartbeats 4000000 in
theorem k_yX9_howMany {p : Program} {l : Launch} {e : Env} {R : Room} {s : State} {m : MethodId} {args : Array Value} {below : List Frame} {meth : Method} {c : Code} {H : Heap} {locs : List Loc} {cells slots : Nat} {Q : State → Prop} {cc : ByteArray} {pc nL index : Nat} {ret : Option FieldType} {own : String} {ls : Array Slot} {rest : List Value} {E : Lay} {ad : Nat → Nat → Nat} {M N : Mem} (X : CX p s m args meth c cc nL ret own) (hK : KK E s) (hZ : ZZ E s) (hW : WD E ad (M, N) H) (hS : va_S (ow E) s.heap H locs) (hsz : ls.size = nL) {x1 : Int32} {x2 : Int32} {r : Int32} (hf : f_yX9_howMany N x1 x2 = some r) (hn : Cond.methodLink own index yX9_howMany ∈ TB) (hR : 0 + 1 ≤ R.frames ∧ 8 + (5 + 11) + 0 ≤ R.locals) (hC : cells ≤ R.cells ∧ slots ≤ R.slots) (h8 : (rest.map fun v => v.category).sum ≤ 8) (hdg : decode cc pc = .ok (.invokevirtual index, 3)) (kk : ∀ (H1 : Heap) (locs1 : List Loc), WD E ad (M, N) H1 → va_S (ow E) s.heap H1 locs1 → W p l e R s m args below meth c H1 locs1 cells slots Q (F0 m (pc + 3) ls (.int r :: rest))) : W p l e R s m args below meth c H locs cells slots Q (F0 m pc ls (.int x2 :: .int x1 :: .ref (ad 20 0) :: rest)) := by
  refine va_calli (va_runV (C := RX9) (As := [.int x1, .int x2]) (rest := rest) ⟨X.1, X.2.1, X.2.2.1, X.2.2.2.1, X.2.2.2.2.1⟩ (c_yX9_howMany l E ad M N x1 x2 r hf) (cwV 2 X.2.2.2.2.1 (gV hn im_yX9_howMany se_yX9_howMany iniRX9 cd_yX9_howMany) rfl rfl rfl (by decide +kernel) hR) ⟨fun a U g mk q => ⟨q.1, q.2.calling⟩, va_recv hK.1 (hW.at (c := 20) (i := 0) Nat.zero_lt_one rfl) (ci := 9) (q0 := 0) rfl rfl, fun U hU hw => ⟨rfl, PB.at hW hK hZ hS hU hw⟩⟩ rfl rfl hsz rfl (lv_room h8) hdg hC) hS (fun _ _ h => h) (fun _ h => h) (fun r' u t H1 locs1 ht hvm hw hB hz1 hk1 hS1 => ?_)
  obtain ⟨rfl, rfl⟩ := hw
  rw [ht] at hB
  exact kk H1 locs1 hB hS1
def f_yX9_of (N : Mem) (x1 : Int32) (x2 : Int32) : Option (Int32) := ob1 (f_yX9_isThing N x1) (fun r2 => (if r2 = 0 then (some (-1)) else ob1 (f_yX9_in x2 0 5) (fun r5 => (if r5 = 0 then (some (-1)) else (if x2 = 0 then gd (¬ (x1 < 0 ∨ 32 ≤ x1.toNatClampNeg)) ((some (N 21 0 x1.toNatClampNeg))) else (if x2 = 1 then ob1 (f_yX9_isBox N x1) (fun r11 => (if r11 = 0 then gd (¬ (x1 < 0 ∨ 32 ≤ x1.toNatClampNeg)) ((some (N 23 0 x1.toNatClampNeg))) else gd (¬ (x1 < 0 ∨ 32 ≤ x1.toNatClampNeg)) ((some (N 22 0 x1.toNatClampNeg))))) else (if x2 = 2 then gd (¬ (x1 < 0 ∨ 32 ≤ x1.toNatClampNeg)) ((some (N 25 0 x1.toNatClampNeg))) else (if x2 = 3 then gd (¬ (x1 < 0 ∨ 32 ≤ x1.toNatClampNeg)) ((some (N 26 0 x1.toNatClampNeg))) else (if x2 = 4 then ob1 (f_yX9_howMany N x1 3) (fun r23 => (some r23)) else ob1 (f_yX9_howMany N x1 4) (fun r21 => (some r21)))))))))))
set_option maxRecDepth 100000 in
set_option maxHeartbeats 4000000 in
theorem c_yX9_of (l : Launch) (E : Lay) (ad : Nat → Nat → Nat) (M N : Mem) (x1 : Int32) (x2 : Int32) (r : Int32) (hf : f_yX9_of N x1 x2 = some r) : Met l yX9_of (Cond.code yX9_of cX9_of 3 (some .int) :: TB) (rmm 2 43) (va_Pc [.ref (ad 20 0), .int x1, .int x2] (PB E ad (M, N))) (Qi E ad r (M, N)) 0 0 (ow E) := by
  refine Met.ofW (cc := cX9_of) (maxL := 3) (ret := (some .int)) (by decide) rfl ?_
  intro p e s m args below meth c s₁ B hml hv
  obtain ⟨rfl, hW, hK, hZ⟩ := hv
  have hT : ∀ w ∈ TB, w.before _ s = true := fun w h => atoms_spec (ws := (Cond.code yX9_of cX9_of 3 (some .int) :: TB)) B.pre w (List.mem_cons_of_mem _ h)
  have X : CX p s m _ meth c cX9_of 3 (some .int) RX9 := ⟨B.exec, B.bytes, hml, findClass_of_methodNamed B.named, hT, B.returns, B.notSynchronized⟩
  obtain ⟨hx, hb, hml, hown, hT, hr, hlk⟩ := id X
  have hS : va_S (ow E) s.heap s.heap [] := va_S.rf
  have hl := lv_entry ([.ref (ad 20 0), .int x1, .int x2]) (n := 3) (Nat.le_of_ble_eq_true rfl)
  rw [lg_entry_eq]
  generalize (lg_sl ([.ref (ad 20 0), .int x1, .int x2]) ++ List.replicate (3 - (lg_sl ([.ref (ad 20 0), .int x1, .int x2])).length) Slot.unset).toArray = ls at hl ⊢
  have hl : lv_has ls 3 [(0, .ref (ad 20 0)), (1, .int x1), (2, .int x2)] := hl
  unfold f_yX9_of at hf
  refine lv_aload_n hx hb dX9_of_0 rfl (lv_at hl 0 rfl) ?_
  refine lv_iload_n hx hb dX9_of_1 rfl (lv_at hl 1 rfl) ?_
  obtain ⟨r2, h1, hf⟩ := ob1_some hf
  refine k_yX9_isThing X hK hZ hW hS hl.1 h1 mlRX9_122 ⟨Nat.le_of_ble_eq_true rfl, Nat.le_of_ble_eq_true rfl⟩ ⟨Nat.le_of_ble_eq_true rfl, Nat.le_of_ble_eq_true rfl⟩ (Nat.le_of_ble_eq_true rfl) dX9_of_2 (fun H locs hW hS => ?_)
  refine lv_if_eq (tgt := 17) hx hb dX9_of_5 (by decide) (fun c3 => ?_) (fun c3 => ?_)
  · rw [if_pos c3] at hf
    refine lv_iconst (v := -1) hx hb dX9_of_17 (by decide) ?_
    obtain rfl := sp1 hf
    exact e_i ⟨hx, hb, hr, hlk⟩ hW hS dX9_of_18
  · rw [if_neg c3] at hf
    refine lv_iload_n hx hb dX9_of_8 rfl (lv_at hl 2 rfl) ?_
    refine lv_iconst (v := 0) hx hb dX9_of_9 (by decide) ?_
    refine lv_iconst (v := 5) hx hb dX9_of_10 (by decide) ?_
    obtain ⟨r5, h4, hf⟩ := ob1_some hf
    refine k_yX9_in X hK hZ hW hS hl.1 h4 mlRX9_114 ⟨Nat.le_of_ble_eq_true rfl, Nat.le_of_ble_eq_true rfl⟩ ⟨Nat.le_of_ble_eq_true rfl, Nat.le_of_ble_eq_true rfl⟩ (Nat.le_of_ble_eq_true rfl) dX9_of_11 (fun H locs hW hS => ?_)
    refine lv_if_ne (tgt := 19) hx hb dX9_of_14 (by decide) (fun c6 => ?_) (fun c6 => ?_)
    · rw [if_neg c6] at hf
      refine lv_iload_n hx hb dX9_of_19 rfl (lv_at hl 2 rfl) ?_
      by_cases c7 : x2 = 0
      · rw [if_pos c7] at hf
        refine lv_tableIn (tgt := 52) hx hb dX9_of_20 (by rw [c7]; decide) (by rw [c7]; decide) (by rw [c7]; rfl) (by decide) ?_
        refine lv_aload_n hx hb dX9_of_52 rfl (lv_at hl 0 rfl) ?_
        refine g_9_1 X hK hW flRX9_7 dX9_of_53 ?_
        refine lv_iload_n hx hb dX9_of_56 rfl (lv_at hl 1 rfl) ?_
        obtain ⟨b8, hf⟩ := gd_some hf
        refine al_21 X hK hW b8 dX9_of_57 ?_
        obtain rfl := sp1 hf
        exact e_i ⟨hx, hb, hr, hlk⟩ hW hS dX9_of_58
      rw [if_neg c7] at hf
      by_cases c9 : x2 = 1
      · rw [if_pos c9] at hf
        refine lv_tableIn (tgt := 59) hx hb dX9_of_20 (by rw [c9]; decide) (by rw [c9]; decide) (by rw [c9]; rfl) (by decide) ?_
        refine lv_aload_n hx hb dX9_of_59 rfl (lv_at hl 0 rfl) ?_
        refine lv_iload_n hx hb dX9_of_60 rfl (lv_at hl 1 rfl) ?_
        obtain ⟨r11, h10, hf⟩ := ob1_some hf
        refine k_yX9_isBox X hK hZ hW hS hl.1 h10 mlRX9_126 ⟨Nat.le_of_ble_eq_true rfl, Nat.le_of_ble_eq_true rfl⟩ ⟨Nat.le_of_ble_eq_true rfl, Nat.le_of_ble_eq_true rfl⟩ (Nat.le_of_ble_eq_true rfl) dX9_of_61 (fun H locs hW hS => ?_)
        refine lv_if_eq (tgt := 76) hx hb dX9_of_64 (by decide) (fun c12 => ?_) (fun c12 => ?_)
        · rw [if_pos c12] at hf
          refine lv_aload_n hx hb dX9_of_76 rfl (lv_at hl 0 rfl) ?_
          refine g_9_3 X hK hW flRX9_16 dX9_of_77 ?_
          refine lv_iload_n hx hb dX9_of_80 rfl (lv_at hl 1 rfl) ?_
          obtain ⟨b13, hf⟩ := gd_some hf
          refine al_23 X hK hW b13 dX9_of_81 ?_
          obtain rfl := sp1 hf
          exact e_i ⟨hx, hb, hr, hlk⟩ hW hS dX9_of_82
        · rw [if_neg c12] at hf
          refine lv_aload_n hx hb dX9_of_67 rfl (lv_at hl 0 rfl) ?_
          refine g_9_2 X hK hW flRX9_13 dX9_of_68 ?_
          refine lv_iload_n hx hb dX9_of_71 rfl (lv_at hl 1 rfl) ?_
          obtain ⟨b14, hf⟩ := gd_some hf
          refine al_22 X hK hW b14 dX9_of_72 ?_
          refine lv_goto (tgt := 82) hx hb dX9_of_73 (by decide) ?_
          obtain rfl := sp1 hf
          exact e_i ⟨hx, hb, hr, hlk⟩ hW hS dX9_of_82
      rw [if_neg c9] at hf
      by_cases c15 : x2 = 2
      · rw [if_pos c15] at hf
        refine lv_tableIn (tgt := 83) hx hb dX9_of_20 (by rw [c15]; decide) (by rw [c15]; decide) (by rw [c15]; rfl) (by decide) ?_
        refine lv_aload_n hx hb dX9_of_83 rfl (lv_at hl 0 rfl) ?_
        refine g_9_5 X hK hW flRX9_22 dX9_of_84 ?_
        refine lv_iload_n hx hb dX9_of_87 rfl (lv_at hl 1 rfl) ?_
        obtain ⟨b16, hf⟩ := gd_some hf
        refine al_25 X hK hW b16 dX9_of_88 ?_
        obtain rfl := sp1 hf
        exact e_i ⟨hx, hb, hr, hlk⟩ hW hS dX9_of_89
      rw [if_neg c15] at hf
      by_cases c17 : x2 = 3
      · rw [if_pos c17] at hf
        refine lv_tableIn (tgt := 90) hx hb dX9_of_20 (by rw [c17]; decide) (by rw [c17]; decide) (by rw [c17]; rfl) (by decide) ?_
        refine lv_aload_n hx hb dX9_of_90 rfl (lv_at hl 0 rfl) ?_
        refine g_9_6 X hK hW flRX9_25 dX9_of_91 ?_
        refine lv_iload_n hx hb dX9_of_94 rfl (lv_at hl 1 rfl) ?_
        obtain ⟨b18, hf⟩ := gd_some hf
        refine al_26 X hK hW b18 dX9_of_95 ?_
        obtain rfl := sp1 hf
        exact e_i ⟨hx, hb, hr, hlk⟩ hW hS dX9_of_96
      rw [if_neg c17] at hf
      refine lv_tableOut (tgt := 97) hx hb dX9_of_20 (by have := lv_neT (a := 0) c7 (by decide); have := lv_neT (a := 1) c9 (by decide); have := lv_neT (a := 2) c15 (by decide); have := lv_neT (a := 3) c17 (by decide); omega) (by decide) ?_
      refine lv_aload_n hx hb dX9_of_97 rfl (lv_at hl 0 rfl) ?_
      refine lv_iload_n hx hb dX9_of_98 rfl (lv_at hl 1 rfl) ?_
      refine lv_iload_n hx hb dX9_of_99 rfl (lv_at hl 2 rfl) ?_
      refine lv_iconst (v := 4) hx hb dX9_of_100 (by decide) ?_
      refine lv_icmp_ne (tgt := 108) hx hb dX9_of_101 (by decide) (fun c19 => ?_) (fun c19 => ?_)
      · rw [if_neg c19] at hf
        refine lv_iconst (v := 4) hx hb dX9_of_108 (by decide) ?_
        obtain ⟨r21, h20, hf⟩ := ob1_some hf
        refine k_yX9_howMany X hK hZ hW hS hl.1 h20 mlRX9_129 ⟨Nat.le_of_ble_eq_true rfl, Nat.le_of_ble_eq_true rfl⟩ ⟨Nat.le_of_ble_eq_true rfl, Nat.le_of_ble_eq_true rfl⟩ (Nat.le_of_ble_eq_true rfl) dX9_of_109 (fun H locs hW hS => ?_)
        obtain rfl := sp1 hf
        exact e_i ⟨hx, hb, hr, hlk⟩ hW hS dX9_of_112
      · rw [if_pos c19] at hf
        refine lv_iconst (v := 3) hx hb dX9_of_104 (by decide) ?_
        refine lv_goto (tgt := 109) hx hb dX9_of_105 (by decide) ?_
        obtain ⟨r23, h22, hf⟩ := ob1_some hf
        refine k_yX9_howMany X hK hZ hW hS hl.1 h22 mlRX9_129 ⟨Nat.le_of_ble_eq_true rfl, Nat.le_of_ble_eq_true rfl⟩ ⟨Nat.le_of_ble_eq_true rfl, Nat.le_of_ble_eq_true rfl⟩ (Nat.le_of_ble_eq_true rfl) dX9_of_109 (fun H locs hW hS => ?_)
        obtain rfl := sp1 hf
        exact e_i ⟨hx, hb, hr, hlk⟩ hW hS dX9_of_112
    · rw [if_pos c6] at hf
      refine lv_iconst (v := -1) hx hb dX9_of_17 (by decide) ?_
      obtain rfl := sp1 hf
      exact e_i ⟨hx, hb, hr, hlk⟩ hW hS dX9_of_18
set_option maxRecDepth 100000 in
set_option maxHeartbeats 4000000 in
theorem k_yX9_of {p : Program} {l : Launch} {e : Env} {R : Room} {s : State} {m : MethodId} {args : Array Value} {below : List Frame} {meth : Method} {c : Code} {H : Heap} {locs : List Loc} {cells slots : Nat} {Q : State → Prop} {cc : ByteArray} {pc nL index : Nat} {ret : Option FieldType} {own : String} {ls : Array Slot} {rest : List Value} {E : Lay} {ad : Nat → Nat → Nat} {M N : Mem} (X : CX p s m args meth c cc nL ret own) (hK : KK E s) (hZ : ZZ E s) (hW : WD E ad (M, N) H) (hS : va_S (ow E) s.heap H locs) (hsz : ls.size = nL) {x1 : Int32} {x2 : Int32} {r : Int32} (hf : f_yX9_of N x1 x2 = some r) (hn : Cond.methodLink own index yX9_of ∈ TB) (hR : 2 + 1 ≤ R.frames ∧ 8 + (3 + 11) + 43 ≤ R.locals) (hC : cells ≤ R.cells ∧ slots ≤ R.slots) (h8 : (rest.map fun v => v.category).sum ≤ 8) (hdg : decode cc pc = .ok (.invokevirtual index, 3)) (kk : ∀ (H1 : Heap) (locs1 : List Loc), WD E ad (M, N) H1 → va_S (ow E) s.heap H1 locs1 → W p l e R s m args below meth c H1 locs1 cells slots Q (F0 m (pc + 3) ls (.int r :: rest))) : W p l e R s m args below meth c H locs cells slots Q (F0 m pc ls (.int x2 :: .int x1 :: .ref (ad 20 0) :: rest)) := by
  refine va_calli (va_runV (C := RX9) (As := [.int x1, .int x2]) (rest := rest) ⟨X.1, X.2.1, X.2.2.1, X.2.2.2.1, X.2.2.2.2.1⟩ (c_yX9_of l E ad M N x1 x2 r hf) (cwV 2 X.2.2.2.2.1 (gV hn im_yX9_of se_yX9_of iniRX9 cd_yX9_of) rfl rfl rfl (by decide +kernel) hR) ⟨fun a U g mk q => ⟨q.1, q.2.calling⟩, va_recv hK.1 (hW.at (c := 20) (i := 0) Nat.zero_lt_one rfl) (ci := 9) (q0 := 0) rfl rfl, fun U hU hw => ⟨rfl, PB.at hW hK hZ hS hU hw⟩⟩ rfl rfl hsz rfl (lv_room h8) hdg hC) hS (fun _ _ h => h) (fun _ h => h) (fun r' u t H1 locs1 ht hvm hw hB hz1 hk1 hS1 => ?_)
  obtain ⟨rfl, rfl⟩ := hw
  rw [ht] at hB
  exact kk H1 locs1 hB hS1
def f_yX9_item (N : Mem) (x1 : Int32) (x2 : Int32) : Option (Int32) := ob1 (f_yX9_isThing N x1) (fun r2 => (if r2 = 0 then (some (-1)) else gd (¬ (x1 < 0 ∨ 32 ≤ x1.toNatClampNeg)) ((if (N 21 0 x1.toNatClampNeg) ≤ 3 then (some (-1)) else ob1 (f_yX9_in x2 0 ((N 23 0 x1.toNatClampNeg) - 1)) (fun r7 => (if r7 = 0 then (some (-1)) else gd (¬ (((12 * x1) + x2) < 0 ∨ 384 ≤ ((12 * x1) + x2).toNatClampNeg)) ((some (N 24 0 ((12 * x1) + x2).toNatClampNeg)))))))))
set_option maxRecDepth 100000 in
set_option maxHeartbeats 4000000 in
theorem c_yX9_item (l : Launch) (E : Lay) (ad : Nat → Nat → Nat) (M N : Mem) (x1 : Int32) (x2 : Int32) (r : Int32) (hf : f_yX9_item N x1 x2 = some r) : Met l yX9_item (Cond.code yX9_item cX9_item 3 (some .int) :: TB) (rmm 2 43) (va_Pc [.ref (ad 20 0), .int x1, .int x2] (PB E ad (M, N))) (Qi E ad r (M, N)) 0 0 (ow E) := by
  refine Met.ofW (cc := cX9_item) (maxL := 3) (ret := (some .int)) (by decide) rfl ?_
  intro p e s m args below meth c s₁ B hml hv
  obtain ⟨rfl, hW, hK, hZ⟩ := hv
  have hT : ∀ w ∈ TB, w.before _ s = true := fun w h => atoms_spec (ws := (Cond.code yX9_item cX9_item 3 (some .int) :: TB)) B.pre w (List.mem_cons_of_mem _ h)
  have X : CX p s m _ meth c cX9_item 3 (some .int) RX9 := ⟨B.exec, B.bytes, hml, findClass_of_methodNamed B.named, hT, B.returns, B.notSynchronized⟩
  obtain ⟨hx, hb, hml, hown, hT, hr, hlk⟩ := id X
  have hS : va_S (ow E) s.heap s.heap [] := va_S.rf
  have hl := lv_entry ([.ref (ad 20 0), .int x1, .int x2]) (n := 3) (Nat.le_of_ble_eq_true rfl)
  rw [lg_entry_eq]
  generalize (lg_sl ([.ref (ad 20 0), .int x1, .int x2]) ++ List.replicate (3 - (lg_sl ([.ref (ad 20 0), .int x1, .int x2])).length) Slot.unset).toArray = ls at hl ⊢
  have hl : lv_has ls 3 [(0, .ref (ad 20 0)), (1, .int x1), (2, .int x2)] := hl
  unfold f_yX9_item at hf
  refine lv_aload_n hx hb dX9_item_0 rfl (lv_at hl 0 rfl) ?_
  refine lv_iload_n hx hb dX9_item_1 rfl (lv_at hl 1 rfl) ?_
  obtain ⟨r2, h1, hf⟩ := ob1_some hf
  refine k_yX9_isThing X hK hZ hW hS hl.1 h1 mlRX9_122 ⟨Nat.le_of_ble_eq_true rfl, Nat.le_of_ble_eq_true rfl⟩ ⟨Nat.le_of_ble_eq_true rfl, Nat.le_of_ble_eq_true rfl⟩ (Nat.le_of_ble_eq_true rfl) dX9_item_2 (fun H locs hW hS => ?_)
  refine lv_if_eq (tgt := 48) hx hb dX9_item_5 (by decide) (fun c3 => ?_) (fun c3 => ?_)
  · rw [if_pos c3] at hf
    refine lv_iconst (v := -1) hx hb dX9_item_48 (by decide) ?_
    obtain rfl := sp1 hf
    exact e_i ⟨hx, hb, hr, hlk⟩ hW hS dX9_item_49
  · rw [if_neg c3] at hf
    refine lv_aload_n hx hb dX9_item_8 rfl (lv_at hl 0 rfl) ?_
    refine g_9_1 X hK hW flRX9_7 dX9_item_9 ?_
    refine lv_iload_n hx hb dX9_item_12 rfl (lv_at hl 1 rfl) ?_
    obtain ⟨b4, hf⟩ := gd_some hf
    refine al_21 X hK hW b4 dX9_item_13 ?_
    refine lv_iconst (v := 3) hx hb dX9_item_14 (by decide) ?_
    refine lv_icmp_le (tgt := 48) hx hb dX9_item_15 (by decide) (fun c5 => ?_) (fun c5 => ?_)
    · rw [if_pos c5] at hf
      refine lv_iconst (v := -1) hx hb dX9_item_48 (by decide) ?_
      obtain rfl := sp1 hf
      exact e_i ⟨hx, hb, hr, hlk⟩ hW hS dX9_item_49
    · rw [if_neg c5] at hf
      refine lv_iload_n hx hb dX9_item_18 rfl (lv_at hl 2 rfl) ?_
      refine lv_iconst (v := 0) hx hb dX9_item_19 (by decide) ?_
      refine lv_aload_n hx hb dX9_item_20 rfl (lv_at hl 0 rfl) ?_
      refine g_9_3 X hK hW flRX9_16 dX9_item_21 ?_
      refine lv_iload_n hx hb dX9_item_24 rfl (lv_at hl 1 rfl) ?_
      refine al_23 X hK hW b4 dX9_item_25 ?_
      refine lv_iconst (v := 1) hx hb dX9_item_26 (by decide) ?_
      refine lv_isub hx hb dX9_item_27 ?_
      obtain ⟨r7, h6, hf⟩ := ob1_some hf
      refine k_yX9_in X hK hZ hW hS hl.1 h6 mlRX9_114 ⟨Nat.le_of_ble_eq_true rfl, Nat.le_of_ble_eq_true rfl⟩ ⟨Nat.le_of_ble_eq_true rfl, Nat.le_of_ble_eq_true rfl⟩ (Nat.le_of_ble_eq_true rfl) dX9_item_28 (fun H locs hW hS => ?_)
      refine lv_if_eq (tgt := 48) hx hb dX9_item_31 (by decide) (fun c8 => ?_) (fun c8 => ?_)
      · rw [if_pos c8] at hf
        refine lv_iconst (v := -1) hx hb dX9_item_48 (by decide) ?_
        obtain rfl := sp1 hf
        exact e_i ⟨hx, hb, hr, hlk⟩ hW hS dX9_item_49
      · rw [if_neg c8] at hf
        refine lv_aload_n hx hb dX9_item_34 rfl (lv_at hl 0 rfl) ?_
        refine g_9_4 X hK hW flRX9_19 dX9_item_35 ?_
        refine lv_bipush (v := 12) hx hb dX9_item_38 (by decide) ?_
        refine lv_iload_n hx hb dX9_item_40 rfl (lv_at hl 1 rfl) ?_
        refine lv_imul hx hb dX9_item_41 ?_
        refine lv_iload_n hx hb dX9_item_42 rfl (lv_at hl 2 rfl) ?_
        refine lv_iadd hx hb dX9_item_43 ?_
        obtain ⟨b9, hf⟩ := gd_some hf
        refine al_24 X hK hW b9 dX9_item_44 ?_
        refine lv_goto (tgt := 49) hx hb dX9_item_45 (by decide) ?_
        obtain rfl := sp1 hf
        exact e_i ⟨hx, hb, hr, hlk⟩ hW hS dX9_item_49
set_option maxRecDepth 100000 in
set_option maxHeartbeats 4000000 in
theorem k_yX9_item {p : Program} {l : Launch} {e : Env} {R : Room} {s : State} {m : MethodId} {args : Array Value} {below : List Frame} {meth : Method} {c : Code} {H : Heap} {locs : List Loc} {cells slots : Nat} {Q : State → Prop} {cc : ByteArray} {pc nL index : Nat} {ret : Option FieldType} {own : String} {ls : Array Slot} {rest : List Value} {E : Lay} {ad : Nat → Nat → Nat} {M N : Mem} (X : CX p s m args meth c cc nL ret own) (hK : KK E s) (hZ : ZZ E s) (hW : WD E ad (M, N) H) (hS : va_S (ow E) s.heap H locs) (hsz : ls.size = nL) {x1 : Int32} {x2 : Int32} {r : Int32} (hf : f_yX9_item N x1 x2 = some r) (hn : Cond.methodLink own index yX9_item ∈ TB) (hR : 2 + 1 ≤ R.frames ∧ 8 + (3 + 11) + 43 ≤ R.locals) (hC : cells ≤ R.cells ∧ slots ≤ R.slots) (h8 : (rest.map fun v => v.category).sum ≤ 8) (hdg : decode cc pc = .ok (.invokevirtual index, 3)) (kk : ∀ (H1 : Heap) (locs1 : List Loc), WD E ad (M, N) H1 → va_S (ow E) s.heap H1 locs1 → W p l e R s m args below meth c H1 locs1 cells slots Q (F0 m (pc + 3) ls (.int r :: rest))) : W p l e R s m args below meth c H locs cells slots Q (F0 m pc ls (.int x2 :: .int x1 :: .ref (ad 20 0) :: rest)) := by
  refine va_calli (va_runV (C := RX9) (As := [.int x1, .int x2]) (rest := rest) ⟨X.1, X.2.1, X.2.2.1, X.2.2.2.1, X.2.2.2.2.1⟩ (c_yX9_item l E ad M N x1 x2 r hf) (cwV 2 X.2.2.2.2.1 (gV hn im_yX9_item se_yX9_item iniRX9 cd_yX9_item) rfl rfl rfl (by decide +kernel) hR) ⟨fun a U g mk q => ⟨q.1, q.2.calling⟩, va_recv hK.1 (hW.at (c := 20) (i := 0) Nat.zero_lt_one rfl) (ci := 9) (q0 := 0) rfl rfl, fun U hU hw => ⟨rfl, PB.at hW hK hZ hS hU hw⟩⟩ rfl rfl hsz rfl (lv_room h8) hdg hC) hS (fun _ _ h => h) (fun _ h => h) (fun r' u t H1 locs1 ht hvm hw hB hz1 hk1 hS1 => ?_)
  obtain ⟨rfl, rfl⟩ := hw
  rw [ht] at hB
  exact kk H1 locs1 hB hS1
def f_yX9_leaves (N : Mem) (x1 : Int32) : Option Mem := gd (¬ ((N 20 0 1) < 0 ∨ 40 ≤ (N 20 0 1).toNatClampNeg)) (lt1 (mp N 27 0 (N 20 0 1).toNatClampNeg x1) (fun N2 => lt1 (mp N2 20 0 1 ((N2 20 0 1) + 1)) (fun N3 => (some N3))))
set_option maxRecDepth 100000 in
set_option maxHeartbeats 4000000 in
theorem c_yX9_leaves (l : Launch) (E : Lay) (ad : Nat → Nat → Nat) (M N : Mem) (x1 : Int32) (Nr : Mem) (hf : f_yX9_leaves N x1 = some Nr) : Met l yX9_leaves (Cond.code yX9_leaves cX9_leaves 2 none :: TB) (rmm 0 0) (va_Pc [.ref (ad 20 0), .int x1] (PB E ad (M, N))) (Qv E ad (M, Nr)) 0 0 (ow E) := by
  refine Met.ofW (cc := cX9_leaves) (maxL := 2) (ret := none) (by decide) rfl ?_
  intro p e s m args below meth c s₁ B hml hv
  obtain ⟨rfl, hW, hK, hZ⟩ := hv
  have hT : ∀ w ∈ TB, w.before _ s = true := fun w h => atoms_spec (ws := (Cond.code yX9_leaves cX9_leaves 2 none :: TB)) B.pre w (List.mem_cons_of_mem _ h)
  have X : CX p s m _ meth c cX9_leaves 2 none RX9 := ⟨B.exec, B.bytes, hml, findClass_of_methodNamed B.named, hT, B.returns, B.notSynchronized⟩
  obtain ⟨hx, hb, hml, hown, hT, hr, hlk⟩ := id X
  have hS : va_S (ow E) s.heap s.heap [] := va_S.rf
  have hl := lv_entry ([.ref (ad 20 0), .int x1]) (n := 2) (Nat.le_of_ble_eq_true rfl)
  rw [lg_entry_eq]
  generalize (lg_sl ([.ref (ad 20 0), .int x1]) ++ List.replicate (2 - (lg_sl ([.ref (ad 20 0), .int x1])).length) Slot.unset).toArray = ls at hl ⊢
  have hl : lv_has ls 2 [(0, .ref (ad 20 0)), (1, .int x1)] := hl
  unfold f_yX9_leaves at hf
  refine lv_aload_n hx hb dX9_leaves_0 rfl (lv_at hl 0 rfl) ?_
  refine g_9_7 X hK hW flRX9_28 dX9_leaves_1 ?_
  refine lv_aload_n hx hb dX9_leaves_4 rfl (lv_at hl 0 rfl) ?_
  refine g_9_8 X hK hW flRX9_132 dX9_leaves_5 ?_
  refine lv_iload_n hx hb dX9_leaves_8 rfl (lv_at hl 1 rfl) ?_
  obtain ⟨b1, hf⟩ := gd_some hf
  obtain ⟨N2, hN2, hf⟩ := lt1_some hf
  refine as_27 X hK hW hS b1 hN2 dX9_leaves_9 (fun H locs hW hS => ?_)
  refine lv_aload_n hx hb dX9_leaves_10 rfl (lv_at hl 0 rfl) ?_
  refine lv_dup hx hb dX9_leaves_11 rfl ?_
  refine g_9_8 X hK hW flRX9_132 dX9_leaves_12 ?_
  refine lv_iconst (v := 1) hx hb dX9_leaves_15 (by decide) ?_
  refine lv_iadd hx hb dX9_leaves_16 ?_
  obtain ⟨N3, hN3, hf⟩ := lt1_some hf
  refine p_9_8 X hK hW hS hN3 flRX9_132 dX9_leaves_17 (fun H locs hW hS => ?_)
  obtain rfl := sp1 hf
  exact e_v ⟨hx, hb, hr, hlk⟩ hW hS dX9_leaves_20
set_option maxRecDepth 100000 in
set_option maxHeartbeats 4000000 in
theorem k_yX9_leaves {p : Program} {l : Launch} {e : Env} {R : Room} {s : State} {m : MethodId} {args : Array Value} {below : List Frame} {meth : Method} {c : Code} {H : Heap} {locs : List Loc} {cells slots : Nat} {Q : State → Prop} {cc : ByteArray} {pc nL index : Nat} {ret : Option FieldType} {own : String} {ls : Array Slot} {rest : List Value} {E : Lay} {ad : Nat → Nat → Nat} {M N : Mem} (X : CX p s m args meth c cc nL ret own) (hK : KK E s) (hZ : ZZ E s) (hW : WD E ad (M, N) H) (hS : va_S (ow E) s.heap H locs) (hsz : ls.size = nL) {x1 : Int32} {Nr : Mem} (hf : f_yX9_leaves N x1 = some Nr) (hn : Cond.methodLink own index yX9_leaves ∈ TB) (hR : 0 + 1 ≤ R.frames ∧ 8 + (2 + 11) + 0 ≤ R.locals) (hC : cells ≤ R.cells ∧ slots ≤ R.slots) (h8 : (rest.map fun v => v.category).sum ≤ 8) (hdg : decode cc pc = .ok (.invokevirtual index, 3)) (kk : ∀ (H1 : Heap) (locs1 : List Loc), WD E ad (M, Nr) H1 → va_S (ow E) s.heap H1 locs1 → W p l e R s m args below meth c H1 locs1 cells slots Q (F0 m (pc + 3) ls (rest))) : W p l e R s m args below meth c H locs cells slots Q (F0 m pc ls (.int x1 :: .ref (ad 20 0) :: rest)) := by
  refine va_callv (va_runV (C := RX9) (As := [.int x1]) (rest := rest) ⟨X.1, X.2.1, X.2.2.1, X.2.2.2.1, X.2.2.2.2.1⟩ (c_yX9_leaves l E ad M N x1 Nr hf) (cwV 1 X.2.2.2.2.1 (gV hn im_yX9_leaves se_yX9_leaves iniRX9 cd_yX9_leaves) rfl rfl rfl (by decide +kernel) hR) ⟨fun a U g mk q => ⟨q.1, q.2.calling⟩, va_recv hK.1 (hW.at (c := 20) (i := 0) Nat.zero_lt_one rfl) (ci := 9) (q0 := 0) rfl rfl, fun U hU hw => ⟨rfl, PB.at hW hK hZ hS hU hw⟩⟩ rfl rfl hsz rfl (lv_room h8) hdg hC) hS (fun _ _ h => h) (fun _ h => h) (fun u t H1 locs1 ht hvm hw hB hz1 hk1 hS1 => ?_)
  subst hw
  rw [ht] at hB
  exact kk H1 locs1 hB hS1
def f_yX9_weighs (N : Mem) (x1 : Int32) : Option (Int32 × Mem) := lt1 (mp N 20 0 1 0) (fun N1 => gd (¬ (x1 < 0 ∨ 32 ≤ x1.toNatClampNeg)) ((if (N1 21 0 x1.toNatClampNeg) = 0 then ob1 (f_yX9_leaves N1 1) (fun N6 => (some (1, N6))) else (if (N1 21 0 x1.toNatClampNeg) ≤ 3 then (if (N1 21 0 x1.toNatClampNeg) = 3 then ob1 (f_yX9_leaves N1 4) (fun N43 => ob1 (f_yX9_leaves N43 3) (fun N46 => ob1 (f_yX9_leaves N46 2) (fun N48 => ob1 (f_yX9_leaves N48 7) (fun N51 => ob1 (f_yX9_leaves N51 9) (fun N54 => (some (((2 * ((N54 22 0 x1.toNatClampNeg) + (10 * 8))) - 1), N54))))))) else (if (N1 21 0 x1.toNatClampNeg) ≤ 1 then ob1 (f_yX9_leaves N1 2) (fun N12 => ob1 (f_yX9_leaves N12 6) (fun N15 => (if (N1 21 0 x1.toNatClampNeg) = 1 then ob1 (f_yX9_leaves N15 8) (fun N24 => (some (((N24 22 0 x1.toNatClampNeg) + (3 + 1)), N24))) else ob1 (f_yX9_leaves N15 9) (fun N18 => (some (((2 * ((N18 22 0 x1.toNatClampNeg) + (8 + 1))) - 1), N18)))))) else ob1 (f_yX9_leaves N1 3) (fun N29 => ob1 (f_yX9_leaves N29 2) (fun N31 => ob1 (f_yX9_leaves N31 6) (fun N34 => ob1 (f_yX9_leaves N34 9) (fun N37 => (some ((2 * ((N37 22 0 x1.toNatClampNeg) + (8 + 1))), N37)))))))) else ob1 (f_yX9_leaves N1 5) (fun N61 => (some ((N61 23 0 x1.toNatClampNeg), N61)))))))
set_option maxRecDepth 100000 in
set_option maxHeartbeats 4000000 in
theorem c_yX9_weighs (l : Launch) (E : Lay) (ad : Nat → Nat → Nat) (M N : Mem) (x1 : Int32) (r : Int32) (Nr : Mem) (hf : f_yX9_weighs N x1 = some (r, Nr)) : Met l yX9_weighs (Cond.code yX9_weighs cX9_weighs 5 (some .int) :: TB) (rmm 1 21) (va_Pc [.ref (ad 20 0), .int x1] (PB E ad (M, N))) (Qi E ad r (M, Nr)) 0 0 (ow E) := by
  refine Met.ofW (cc := cX9_weighs) (maxL := 5) (ret := (some .int)) (by decide) rfl ?_
  intro p e s m args below meth c s₁ B hml hv
  obtain ⟨rfl, hW, hK, hZ⟩ := hv
  have hT : ∀ w ∈ TB, w.before _ s = true := fun w h => atoms_spec (ws := (Cond.code yX9_weighs cX9_weighs 5 (some .int) :: TB)) B.pre w (List.mem_cons_of_mem _ h)
  have X : CX p s m _ meth c cX9_weighs 5 (some .int) RX9 := ⟨B.exec, B.bytes, hml, findClass_of_methodNamed B.named, hT, B.returns, B.notSynchronized⟩
  obtain ⟨hx, hb, hml, hown, hT, hr, hlk⟩ := id X
  have hS : va_S (ow E) s.heap s.heap [] := va_S.rf
  have hl := lv_entry ([.ref (ad 20 0), .int x1]) (n := 5) (Nat.le_of_ble_eq_true rfl)
  rw [lg_entry_eq]
  generalize (lg_sl ([.ref (ad 20 0), .int x1]) ++ List.replicate (5 - (lg_sl ([.ref (ad 20 0), .int x1])).length) Slot.unset).toArray = ls at hl ⊢
  have hl : lv_has ls 5 [(0, .ref (ad 20 0)), (1, .int x1)] := hl
  unfold f_yX9_weighs at hf
  refine lv_aload_n hx hb dX9_weighs_0 rfl (lv_at hl 0 rfl) ?_
  refine lv_iconst (v := 0) hx hb dX9_weighs_1 (by decide) ?_
  obtain ⟨N1, hN1, hf⟩ := lt1_some hf
  refine p_9_8 X hK hW hS hN1 flRX9_132 dX9_weighs_2 (fun H locs hW hS => ?_)
  refine lv_aload_n hx hb dX9_weighs_5 rfl (lv_at hl 0 rfl) ?_
  refine g_9_1 X hK hW flRX9_7 dX9_weighs_6 ?_
  refine lv_iload_n hx hb dX9_weighs_9 rfl (lv_at hl 1 rfl) ?_
  obtain ⟨b2, hf⟩ := gd_some hf
  refine al_21 X hK hW b2 dX9_weighs_10 ?_
  refine lv_istore_n (lv' := [(2, .int (N1 21 0 x1.toNatClampNeg)), (0, .ref (ad 20 0)), (1, .int x1)]) hx hb dX9_weighs_11 rfl hl (by decide) rfl (fun ls hl => ?_)
  refine lv_iload_n hx hb dX9_weighs_12 rfl (lv_at hl 0 rfl) ?_
  refine lv_if_eq (tgt := 21) hx hb dX9_weighs_13 (by decide) (fun c3 => ?_) (fun c3 => ?_)
  · rw [if_pos c3] at hf
    refine lv_aload_n hx hb dX9_weighs_21 rfl (lv_at hl 1 rfl) ?_
    refine lv_iload_n hx hb dX9_weighs_22 rfl (lv_at hl 0 rfl) ?_
    refine lv_if_ne (tgt := 30) hx hb dX9_weighs_23 (by decide) (fun c4 => ?_) (fun c4 => ?_)
    · exfalso; have := q_eq (b := 0) (by decide) c3; have := q_ne (b := 0) (by decide) c4; omega
    · skip
      refine lv_iconst (v := 1) hx hb dX9_weighs_26 (by decide) ?_
      refine lv_goto (tgt := 31) hx hb dX9_weighs_27 (by decide) ?_
      obtain ⟨N6, h5, hf⟩ := ob1_some hf
      refine k_yX9_leaves X hK hZ hW hS hl.1 h5 mlRX9_135 ⟨Nat.le_of_ble_eq_true rfl, Nat.le_of_ble_eq_true rfl⟩ ⟨Nat.le_of_ble_eq_true rfl, Nat.le_of_ble_eq_true rfl⟩ (Nat.le_of_ble_eq_true rfl) dX9_weighs_31 (fun H locs hW hS => ?_)
      refine lv_iload_n hx hb dX9_weighs_34 rfl (lv_at hl 0 rfl) ?_
      refine lv_if_ne (tgt := 42) hx hb dX9_weighs_35 (by decide) (fun c7 => ?_) (fun c7 => ?_)
      · exfalso; have := q_eq (b := 0) (by decide) c3; have := q_ne (b := 0) (by decide) c7; omega
      · skip
        refine lv_iconst (v := 1) hx hb dX9_weighs_38 (by decide) ?_
        refine lv_goto (tgt := 48) hx hb dX9_weighs_39 (by decide) ?_
        obtain ⟨rfl, rfl⟩ := sp2 hf
        exact e_i ⟨hx, hb, hr, hlk⟩ hW hS dX9_weighs_48
  · rw [if_neg c3] at hf
    refine lv_iload_n hx hb dX9_weighs_16 rfl (lv_at hl 0 rfl) ?_
    refine lv_iconst (v := 3) hx hb dX9_weighs_17 (by decide) ?_
    refine lv_icmp_le (tgt := 49) hx hb dX9_weighs_18 (by decide) (fun c8 => ?_) (fun c8 => ?_)
    · rw [if_pos c8] at hf
      refine lv_iload_n hx hb dX9_weighs_49 rfl (lv_at hl 0 rfl) ?_
      refine lv_iconst (v := 3) hx hb dX9_weighs_50 (by decide) ?_
      refine lv_icmp_ne (tgt := 59) hx hb dX9_weighs_51 (by decide) (fun c9 => ?_) (fun c9 => ?_)
      · rw [if_neg c9] at hf
        refine lv_iload_n hx hb dX9_weighs_59 rfl (lv_at hl 0 rfl) ?_
        refine lv_iconst (v := 1) hx hb dX9_weighs_60 (by decide) ?_
        refine lv_icmp_le (tgt := 69) hx hb dX9_weighs_61 (by decide) (fun c10 => ?_) (fun c10 => ?_)
        · rw [if_pos c10] at hf
          refine lv_aload_n hx hb dX9_weighs_69 rfl (lv_at hl 1 rfl) ?_
          refine lv_iconst (v := 2) hx hb dX9_weighs_70 (by decide) ?_
          obtain ⟨N12, h11, hf⟩ := ob1_some hf
          refine k_yX9_leaves X hK hZ hW hS hl.1 h11 mlRX9_135 ⟨Nat.le_of_ble_eq_true rfl, Nat.le_of_ble_eq_true rfl⟩ ⟨Nat.le_of_ble_eq_true rfl, Nat.le_of_ble_eq_true rfl⟩ (Nat.le_of_ble_eq_true rfl) dX9_weighs_71 (fun H locs hW hS => ?_)
          refine lv_aload_n hx hb dX9_weighs_74 rfl (lv_at hl 1 rfl) ?_
          refine lv_iload_n hx hb dX9_weighs_75 rfl (lv_at hl 0 rfl) ?_
          refine lv_iconst (v := 3) hx hb dX9_weighs_76 (by decide) ?_
          refine lv_icmp_ne (tgt := 85) hx hb dX9_weighs_77 (by decide) (fun c13 => ?_) (fun c13 => ?_)
          · skip
            refine lv_bipush (v := 6) hx hb dX9_weighs_85 (by decide) ?_
            obtain ⟨N15, h14, hf⟩ := ob1_some hf
            refine k_yX9_leaves X hK hZ hW hS hl.1 h14 mlRX9_135 ⟨Nat.le_of_ble_eq_true rfl, Nat.le_of_ble_eq_true rfl⟩ ⟨Nat.le_of_ble_eq_true rfl, Nat.le_of_ble_eq_true rfl⟩ (Nat.le_of_ble_eq_true rfl) dX9_weighs_87 (fun H locs hW hS => ?_)
            refine lv_aload_n hx hb dX9_weighs_90 rfl (lv_at hl 1 rfl) ?_
            refine lv_iload_n hx hb dX9_weighs_91 rfl (lv_at hl 0 rfl) ?_
            refine lv_iconst (v := 1) hx hb dX9_weighs_92 (by decide) ?_
            refine lv_icmp_ne (tgt := 101) hx hb dX9_weighs_93 (by decide) (fun c16 => ?_) (fun c16 => ?_)
            · rw [if_neg c16] at hf
              refine lv_bipush (v := 9) hx hb dX9_weighs_101 (by decide) ?_
              obtain ⟨N18, h17, hf⟩ := ob1_some hf
              refine k_yX9_leaves X hK hZ hW hS hl.1 h17 mlRX9_135 ⟨Nat.le_of_ble_eq_true rfl, Nat.le_of_ble_eq_true rfl⟩ ⟨Nat.le_of_ble_eq_true rfl, Nat.le_of_ble_eq_true rfl⟩ (Nat.le_of_ble_eq_true rfl) dX9_weighs_103 (fun H locs hW hS => ?_)
              refine lv_iload_n hx hb dX9_weighs_106 rfl (lv_at hl 0 rfl) ?_
              refine lv_iconst (v := 1) hx hb dX9_weighs_107 (by decide) ?_
              refine lv_icmp_ne (tgt := 115) hx hb dX9_weighs_108 (by decide) (fun c19 => ?_) (fun c19 => ?_)
              · skip
                refine lv_bipush (v := 8) hx hb dX9_weighs_115 (by decide) ?_
                refine lv_istore_n (lv' := [(3, .int 8), (2, .int (N1 21 0 x1.toNatClampNeg)), (0, .ref (ad 20 0)), (1, .int x1)]) hx hb dX9_weighs_117 rfl hl (by decide) rfl (fun ls hl => ?_)
                refine lv_aload_n hx hb dX9_weighs_118 rfl (lv_at hl 2 rfl) ?_
                refine g_9_2 X hK hW flRX9_13 dX9_weighs_119 ?_
                refine lv_iload_n hx hb dX9_weighs_122 rfl (lv_at hl 3 rfl) ?_
                refine al_22 X hK hW b2 dX9_weighs_123 ?_
                refine lv_iload_n hx hb dX9_weighs_124 rfl (lv_at hl 1 rfl) ?_
                refine lv_iconst (v := 3) hx hb dX9_weighs_125 (by decide) ?_
                refine lv_icmp_ne (tgt := 136) hx hb dX9_weighs_126 (by decide) (fun c20 => ?_) (fun c20 => ?_)
                · skip
                  refine lv_iload_n hx hb dX9_weighs_136 rfl (lv_at hl 0 rfl) ?_
                  refine lv_iconst (v := 1) hx hb dX9_weighs_137 (by decide) ?_
                  refine lv_iadd hx hb dX9_weighs_138 ?_
                  refine lv_iadd hx hb dX9_weighs_139 ?_
                  refine lv_istore (lv' := [(4, .int ((N18 22 0 x1.toNatClampNeg) + (8 + 1))), (3, .int 8), (2, .int (N1 21 0 x1.toNatClampNeg)), (0, .ref (ad 20 0)), (1, .int x1)]) hx hb dX9_weighs_140 hl (by decide) rfl (fun ls hl => ?_)
                  refine lv_iload_n hx hb dX9_weighs_142 rfl (lv_at hl 2 rfl) ?_
                  refine lv_iconst (v := 1) hx hb dX9_weighs_143 (by decide) ?_
                  refine lv_icmp_ne (tgt := 152) hx hb dX9_weighs_144 (by decide) (fun c21 => ?_) (fun c21 => ?_)
                  · skip
                    refine lv_iload_n hx hb dX9_weighs_152 rfl (lv_at hl 2 rfl) ?_
                    refine lv_iconst (v := 2) hx hb dX9_weighs_153 (by decide) ?_
                    refine lv_icmp_ne (tgt := 164) hx hb dX9_weighs_154 (by decide) (fun c22 => ?_) (fun c22 => ?_)
                    · skip
                      refine lv_iconst (v := 2) hx hb dX9_weighs_164 (by decide) ?_
                      refine lv_iload hx hb dX9_weighs_165 (lv_at hl 0 rfl) ?_
                      refine lv_imul hx hb dX9_weighs_167 ?_
                      refine lv_iconst (v := 1) hx hb dX9_weighs_168 (by decide) ?_
                      refine lv_isub hx hb dX9_weighs_169 ?_
                      obtain ⟨rfl, rfl⟩ := sp2 hf
                      exact e_i ⟨hx, hb, hr, hlk⟩ hW hS dX9_weighs_170
                    · exfalso; have := q_ne (b := 0) (by decide) c3; have := q_le (b := 3) (by decide) c8; have := q_ne (b := 3) (by decide) c9; have := q_le (b := 1) (by decide) c10; have := q_ne (b := 1) (by decide) c16; have := q_eq (b := 2) (by decide) c22; omega
                  · exfalso; have := q_ne (b := 0) (by decide) c3; have := q_le (b := 3) (by decide) c8; have := q_ne (b := 3) (by decide) c9; have := q_le (b := 1) (by decide) c10; have := q_ne (b := 1) (by decide) c16; have := q_eq (b := 1) (by decide) c21; omega
                · exfalso; have := q_ne (b := 0) (by decide) c3; have := q_le (b := 3) (by decide) c8; have := q_ne (b := 3) (by decide) c9; have := q_le (b := 1) (by decide) c10; have := q_ne (b := 1) (by decide) c16; have := q_eq (b := 3) (by decide) c20; omega
              · exfalso; have := q_ne (b := 0) (by decide) c3; have := q_le (b := 3) (by decide) c8; have := q_ne (b := 3) (by decide) c9; have := q_le (b := 1) (by decide) c10; have := q_ne (b := 1) (by decide) c16; have := q_eq (b := 1) (by decide) c19; omega
            · rw [if_pos c16] at hf
              refine lv_bipush (v := 8) hx hb dX9_weighs_96 (by decide) ?_
              refine lv_goto (tgt := 103) hx hb dX9_weighs_98 (by decide) ?_
              obtain ⟨N24, h23, hf⟩ := ob1_some hf
              refine k_yX9_leaves X hK hZ hW hS hl.1 h23 mlRX9_135 ⟨Nat.le_of_ble_eq_true rfl, Nat.le_of_ble_eq_true rfl⟩ ⟨Nat.le_of_ble_eq_true rfl, Nat.le_of_ble_eq_true rfl⟩ (Nat.le_of_ble_eq_true rfl) dX9_weighs_103 (fun H locs hW hS => ?_)
              refine lv_iload_n hx hb dX9_weighs_106 rfl (lv_at hl 0 rfl) ?_
              refine lv_iconst (v := 1) hx hb dX9_weighs_107 (by decide) ?_
              refine lv_icmp_ne (tgt := 115) hx hb dX9_weighs_108 (by decide) (fun c25 => ?_) (fun c25 => ?_)
              · exfalso; have := q_ne (b := 0) (by decide) c3; have := q_le (b := 3) (by decide) c8; have := q_ne (b := 3) (by decide) c9; have := q_le (b := 1) (by decide) c10; have := q_eq (b := 1) (by decide) c16; have := q_ne (b := 1) (by decide) c25; omega
              · skip
                refine lv_iconst (v := 3) hx hb dX9_weighs_111 (by decide) ?_
                refine lv_goto (tgt := 117) hx hb dX9_weighs_112 (by decide) ?_
                refine lv_istore_n (lv' := [(3, .int 3), (2, .int (N1 21 0 x1.toNatClampNeg)), (0, .ref (ad 20 0)), (1, .int x1)]) hx hb dX9_weighs_117 rfl hl (by decide) rfl (fun ls hl => ?_)
                refine lv_aload_n hx hb dX9_weighs_118 rfl (lv_at hl 2 rfl) ?_
                refine g_9_2 X hK hW flRX9_13 dX9_weighs_119 ?_
                refine lv_iload_n hx hb dX9_weighs_122 rfl (lv_at hl 3 rfl) ?_
                refine al_22 X hK hW b2 dX9_weighs_123 ?_
                refine lv_iload_n hx hb dX9_weighs_124 rfl (lv_at hl 1 rfl) ?_
                refine lv_iconst (v := 3) hx hb dX9_weighs_125 (by decide) ?_
                refine lv_icmp_ne (tgt := 136) hx hb dX9_weighs_126 (by decide) (fun c26 => ?_) (fun c26 => ?_)
                · skip
                  refine lv_iload_n hx hb dX9_weighs_136 rfl (lv_at hl 0 rfl) ?_
                  refine lv_iconst (v := 1) hx hb dX9_weighs_137 (by decide) ?_
                  refine lv_iadd hx hb dX9_weighs_138 ?_
                  refine lv_iadd hx hb dX9_weighs_139 ?_
                  refine lv_istore (lv' := [(4, .int ((N24 22 0 x1.toNatClampNeg) + (3 + 1))), (3, .int 3), (2, .int (N1 21 0 x1.toNatClampNeg)), (0, .ref (ad 20 0)), (1, .int x1)]) hx hb dX9_weighs_140 hl (by decide) rfl (fun ls hl => ?_)
                  refine lv_iload_n hx hb dX9_weighs_142 rfl (lv_at hl 2 rfl) ?_
                  refine lv_iconst (v := 1) hx hb dX9_weighs_143 (by decide) ?_
                  refine lv_icmp_ne (tgt := 152) hx hb dX9_weighs_144 (by decide) (fun c27 => ?_) (fun c27 => ?_)
                  · exfalso; have := q_ne (b := 0) (by decide) c3; have := q_le (b := 3) (by decide) c8; have := q_ne (b := 3) (by decide) c9; have := q_le (b := 1) (by decide) c10; have := q_eq (b := 1) (by decide) c16; have := q_ne (b := 1) (by decide) c27; omega
                  · skip
                    refine lv_iload hx hb dX9_weighs_147 (lv_at hl 0 rfl) ?_
                    refine lv_goto (tgt := 170) hx hb dX9_weighs_149 (by decide) ?_
                    obtain ⟨rfl, rfl⟩ := sp2 hf
                    exact e_i ⟨hx, hb, hr, hlk⟩ hW hS dX9_weighs_170
                · exfalso; have := q_ne (b := 0) (by decide) c3; have := q_le (b := 3) (by decide) c8; have := q_ne (b := 3) (by decide) c9; have := q_le (b := 1) (by decide) c10; have := q_eq (b := 1) (by decide) c16; have := q_eq (b := 3) (by decide) c26; omega
          · exfalso; have := q_ne (b := 0) (by decide) c3; have := q_le (b := 3) (by decide) c8; have := q_ne (b := 3) (by decide) c9; have := q_le (b := 1) (by decide) c10; have := q_eq (b := 3) (by decide) c13; omega
        · rw [if_neg c10] at hf
          refine lv_aload_n hx hb dX9_weighs_64 rfl (lv_at hl 1 rfl) ?_
          refine lv_iconst (v := 3) hx hb dX9_weighs_65 (by decide) ?_
          obtain ⟨N29, h28, hf⟩ := ob1_some hf
          refine k_yX9_leaves X hK hZ hW hS hl.1 h28 mlRX9_135 ⟨Nat.le_of_ble_eq_true rfl, Nat.le_of_ble_eq_true rfl⟩ ⟨Nat.le_of_ble_eq_true rfl, Nat.le_of_ble_eq_true rfl⟩ (Nat.le_of_ble_eq_true rfl) dX9_weighs_66 (fun H locs hW hS => ?_)
          refine lv_aload_n hx hb dX9_weighs_69 rfl (lv_at hl 1 rfl) ?_
          refine lv_iconst (v := 2) hx hb dX9_weighs_70 (by decide) ?_
          obtain ⟨N31, h30, hf⟩ := ob1_some hf
          refine k_yX9_leaves X hK hZ hW hS hl.1 h30 mlRX9_135 ⟨Nat.le_of_ble_eq_true rfl, Nat.le_of_ble_eq_true rfl⟩ ⟨Nat.le_of_ble_eq_true rfl, Nat.le_of_ble_eq_true rfl⟩ (Nat.le_of_ble_eq_true rfl) dX9_weighs_71 (fun H locs hW hS => ?_)
          refine lv_aload_n hx hb dX9_weighs_74 rfl (lv_at hl 1 rfl) ?_
          refine lv_iload_n hx hb dX9_weighs_75 rfl (lv_at hl 0 rfl) ?_
          refine lv_iconst (v := 3) hx hb dX9_weighs_76 (by decide) ?_
          refine lv_icmp_ne (tgt := 85) hx hb dX9_weighs_77 (by decide) (fun c32 => ?_) (fun c32 => ?_)
          · skip
            refine lv_bipush (v := 6) hx hb dX9_weighs_85 (by decide) ?_
            obtain ⟨N34, h33, hf⟩ := ob1_some hf
            refine k_yX9_leaves X hK hZ hW hS hl.1 h33 mlRX9_135 ⟨Nat.le_of_ble_eq_true rfl, Nat.le_of_ble_eq_true rfl⟩ ⟨Nat.le_of_ble_eq_true rfl, Nat.le_of_ble_eq_true rfl⟩ (Nat.le_of_ble_eq_true rfl) dX9_weighs_87 (fun H locs hW hS => ?_)
            refine lv_aload_n hx hb dX9_weighs_90 rfl (lv_at hl 1 rfl) ?_
            refine lv_iload_n hx hb dX9_weighs_91 rfl (lv_at hl 0 rfl) ?_
            refine lv_iconst (v := 1) hx hb dX9_weighs_92 (by decide) ?_
            refine lv_icmp_ne (tgt := 101) hx hb dX9_weighs_93 (by decide) (fun c35 => ?_) (fun c35 => ?_)
            · skip
              refine lv_bipush (v := 9) hx hb dX9_weighs_101 (by decide) ?_
              obtain ⟨N37, h36, hf⟩ := ob1_some hf
              refine k_yX9_leaves X hK hZ hW hS hl.1 h36 mlRX9_135 ⟨Nat.le_of_ble_eq_true rfl, Nat.le_of_ble_eq_true rfl⟩ ⟨Nat.le_of_ble_eq_true rfl, Nat.le_of_ble_eq_true rfl⟩ (Nat.le_of_ble_eq_true rfl) dX9_weighs_103 (fun H locs hW hS => ?_)
              refine lv_iload_n hx hb dX9_weighs_106 rfl (lv_at hl 0 rfl) ?_
              refine lv_iconst (v := 1) hx hb dX9_weighs_107 (by decide) ?_
              refine lv_icmp_ne (tgt := 115) hx hb dX9_weighs_108 (by decide) (fun c38 => ?_) (fun c38 => ?_)
              · skip
                refine lv_bipush (v := 8) hx hb dX9_weighs_115 (by decide) ?_
                refine lv_istore_n (lv' := [(3, .int 8), (2, .int (N1 21 0 x1.toNatClampNeg)), (0, .ref (ad 20 0)), (1, .int x1)]) hx hb dX9_weighs_117 rfl hl (by decide) rfl (fun ls hl => ?_)
                refine lv_aload_n hx hb dX9_weighs_118 rfl (lv_at hl 2 rfl) ?_
                refine g_9_2 X hK hW flRX9_13 dX9_weighs_119 ?_
                refine lv_iload_n hx hb dX9_weighs_122 rfl (lv_at hl 3 rfl) ?_
                refine al_22 X hK hW b2 dX9_weighs_123 ?_
                refine lv_iload_n hx hb dX9_weighs_124 rfl (lv_at hl 1 rfl) ?_
                refine lv_iconst (v := 3) hx hb dX9_weighs_125 (by decide) ?_
                refine lv_icmp_ne (tgt := 136) hx hb dX9_weighs_126 (by decide) (fun c39 => ?_) (fun c39 => ?_)
                · skip
                  refine lv_iload_n hx hb dX9_weighs_136 rfl (lv_at hl 0 rfl) ?_
                  refine lv_iconst (v := 1) hx hb dX9_weighs_137 (by decide) ?_
                  refine lv_iadd hx hb dX9_weighs_138 ?_
                  refine lv_iadd hx hb dX9_weighs_139 ?_
                  refine lv_istore (lv' := [(4, .int ((N37 22 0 x1.toNatClampNeg) + (8 + 1))), (3, .int 8), (2, .int (N1 21 0 x1.toNatClampNeg)), (0, .ref (ad 20 0)), (1, .int x1)]) hx hb dX9_weighs_140 hl (by decide) rfl (fun ls hl => ?_)
                  refine lv_iload_n hx hb dX9_weighs_142 rfl (lv_at hl 2 rfl) ?_
                  refine lv_iconst (v := 1) hx hb dX9_weighs_143 (by decide) ?_
                  refine lv_icmp_ne (tgt := 152) hx hb dX9_weighs_144 (by decide) (fun c40 => ?_) (fun c40 => ?_)
                  · skip
                    refine lv_iload_n hx hb dX9_weighs_152 rfl (lv_at hl 2 rfl) ?_
                    refine lv_iconst (v := 2) hx hb dX9_weighs_153 (by decide) ?_
                    refine lv_icmp_ne (tgt := 164) hx hb dX9_weighs_154 (by decide) (fun c41 => ?_) (fun c41 => ?_)
                    · exfalso; have := q_ne (b := 0) (by decide) c3; have := q_le (b := 3) (by decide) c8; have := q_ne (b := 3) (by decide) c9; have := q_nle (b := 1) (by decide) c10; have := q_ne (b := 2) (by decide) c41; omega
                    · skip
                      refine lv_iconst (v := 2) hx hb dX9_weighs_157 (by decide) ?_
                      refine lv_iload hx hb dX9_weighs_158 (lv_at hl 0 rfl) ?_
                      refine lv_imul hx hb dX9_weighs_160 ?_
                      refine lv_goto (tgt := 170) hx hb dX9_weighs_161 (by decide) ?_
                      obtain ⟨rfl, rfl⟩ := sp2 hf
                      exact e_i ⟨hx, hb, hr, hlk⟩ hW hS dX9_weighs_170
                  · exfalso; have := q_ne (b := 0) (by decide) c3; have := q_le (b := 3) (by decide) c8; have := q_ne (b := 3) (by decide) c9; have := q_nle (b := 1) (by decide) c10; have := q_eq (b := 1) (by decide) c40; omega
                · exfalso; have := q_ne (b := 0) (by decide) c3; have := q_le (b := 3) (by decide) c8; have := q_ne (b := 3) (by decide) c9; have := q_nle (b := 1) (by decide) c10; have := q_eq (b := 3) (by decide) c39; omega
              · exfalso; have := q_ne (b := 0) (by decide) c3; have := q_le (b := 3) (by decide) c8; have := q_ne (b := 3) (by decide) c9; have := q_nle (b := 1) (by decide) c10; have := q_eq (b := 1) (by decide) c38; omega
            · exfalso; have := q_ne (b := 0) (by decide) c3; have := q_le (b := 3) (by decide) c8; have := q_ne (b := 3) (by decide) c9; have := q_nle (b := 1) (by decide) c10; have := q_eq (b := 1) (by decide) c35; omega
          · exfalso; have := q_ne (b := 0) (by decide) c3; have := q_le (b := 3) (by decide) c8; have := q_ne (b := 3) (by decide) c9; have := q_nle (b := 1) (by decide) c10; have := q_eq (b := 3) (by decide) c32; omega
      · rw [if_pos c9] at hf
        refine lv_aload_n hx hb dX9_weighs_54 rfl (lv_at hl 1 rfl) ?_
        refine lv_iconst (v := 4) hx hb dX9_weighs_55 (by decide) ?_
        obtain ⟨N43, h42, hf⟩ := ob1_some hf
        refine k_yX9_leaves X hK hZ hW hS hl.1 h42 mlRX9_135 ⟨Nat.le_of_ble_eq_true rfl, Nat.le_of_ble_eq_true rfl⟩ ⟨Nat.le_of_ble_eq_true rfl, Nat.le_of_ble_eq_true rfl⟩ (Nat.le_of_ble_eq_true rfl) dX9_weighs_56 (fun H locs hW hS => ?_)
        refine lv_iload_n hx hb dX9_weighs_59 rfl (lv_at hl 0 rfl) ?_
        refine lv_iconst (v := 1) hx hb dX9_weighs_60 (by decide) ?_
        refine lv_icmp_le (tgt := 69) hx hb dX9_weighs_61 (by decide) (fun c44 => ?_) (fun c44 => ?_)
        · exfalso; have := q_ne (b := 0) (by decide) c3; have := q_le (b := 3) (by decide) c8; have := q_eq (b := 3) (by decide) c9; have := q_le (b := 1) (by decide) c44; omega
        · skip
          refine lv_aload_n hx hb dX9_weighs_64 rfl (lv_at hl 1 rfl) ?_
          refine lv_iconst (v := 3) hx hb dX9_weighs_65 (by decide) ?_
          obtain ⟨N46, h45, hf⟩ := ob1_some hf
          refine k_yX9_leaves X hK hZ hW hS hl.1 h45 mlRX9_135 ⟨Nat.le_of_ble_eq_true rfl, Nat.le_of_ble_eq_true rfl⟩ ⟨Nat.le_of_ble_eq_true rfl, Nat.le_of_ble_eq_true rfl⟩ (Nat.le_of_ble_eq_true rfl) dX9_weighs_66 (fun H locs hW hS => ?_)
          refine lv_aload_n hx hb dX9_weighs_69 rfl (lv_at hl 1 rfl) ?_
          refine lv_iconst (v := 2) hx hb dX9_weighs_70 (by decide) ?_
          obtain ⟨N48, h47, hf⟩ := ob1_some hf
          refine k_yX9_leaves X hK hZ hW hS hl.1 h47 mlRX9_135 ⟨Nat.le_of_ble_eq_true rfl, Nat.le_of_ble_eq_true rfl⟩ ⟨Nat.le_of_ble_eq_true rfl, Nat.le_of_ble_eq_true rfl⟩ (Nat.le_of_ble_eq_true rfl) dX9_weighs_71 (fun H locs hW hS => ?_)
          refine lv_aload_n hx hb dX9_weighs_74 rfl (lv_at hl 1 rfl) ?_
          refine lv_iload_n hx hb dX9_weighs_75 rfl (lv_at hl 0 rfl) ?_
          refine lv_iconst (v := 3) hx hb dX9_weighs_76 (by decide) ?_
          refine lv_icmp_ne (tgt := 85) hx hb dX9_weighs_77 (by decide) (fun c49 => ?_) (fun c49 => ?_)
          · exfalso; have := q_ne (b := 0) (by decide) c3; have := q_le (b := 3) (by decide) c8; have := q_eq (b := 3) (by decide) c9; have := q_ne (b := 3) (by decide) c49; omega
          · skip
            refine lv_bipush (v := 7) hx hb dX9_weighs_80 (by decide) ?_
            refine lv_goto (tgt := 87) hx hb dX9_weighs_82 (by decide) ?_
            obtain ⟨N51, h50, hf⟩ := ob1_some hf
            refine k_yX9_leaves X hK hZ hW hS hl.1 h50 mlRX9_135 ⟨Nat.le_of_ble_eq_true rfl, Nat.le_of_ble_eq_true rfl⟩ ⟨Nat.le_of_ble_eq_true rfl, Nat.le_of_ble_eq_true rfl⟩ (Nat.le_of_ble_eq_true rfl) dX9_weighs_87 (fun H locs hW hS => ?_)
            refine lv_aload_n hx hb dX9_weighs_90 rfl (lv_at hl 1 rfl) ?_
            refine lv_iload_n hx hb dX9_weighs_91 rfl (lv_at hl 0 rfl) ?_
            refine lv_iconst (v := 1) hx hb dX9_weighs_92 (by decide) ?_
            refine lv_icmp_ne (tgt := 101) hx hb dX9_weighs_93 (by decide) (fun c52 => ?_) (fun c52 => ?_)
            · skip
              refine lv_bipush (v := 9) hx hb dX9_weighs_101 (by decide) ?_
              obtain ⟨N54, h53, hf⟩ := ob1_some hf
              refine k_yX9_leaves X hK hZ hW hS hl.1 h53 mlRX9_135 ⟨Nat.le_of_ble_eq_true rfl, Nat.le_of_ble_eq_true rfl⟩ ⟨Nat.le_of_ble_eq_true rfl, Nat.le_of_ble_eq_true rfl⟩ (Nat.le_of_ble_eq_true rfl) dX9_weighs_103 (fun H locs hW hS => ?_)
              refine lv_iload_n hx hb dX9_weighs_106 rfl (lv_at hl 0 rfl) ?_
              refine lv_iconst (v := 1) hx hb dX9_weighs_107 (by decide) ?_
              refine lv_icmp_ne (tgt := 115) hx hb dX9_weighs_108 (by decide) (fun c55 => ?_) (fun c55 => ?_)
              · skip
                refine lv_bipush (v := 8) hx hb dX9_weighs_115 (by decide) ?_
                refine lv_istore_n (lv' := [(3, .int 8), (2, .int (N1 21 0 x1.toNatClampNeg)), (0, .ref (ad 20 0)), (1, .int x1)]) hx hb dX9_weighs_117 rfl hl (by decide) rfl (fun ls hl => ?_)
                refine lv_aload_n hx hb dX9_weighs_118 rfl (lv_at hl 2 rfl) ?_
                refine g_9_2 X hK hW flRX9_13 dX9_weighs_119 ?_
                refine lv_iload_n hx hb dX9_weighs_122 rfl (lv_at hl 3 rfl) ?_
                refine al_22 X hK hW b2 dX9_weighs_123 ?_
                refine lv_iload_n hx hb dX9_weighs_124 rfl (lv_at hl 1 rfl) ?_
                refine lv_iconst (v := 3) hx hb dX9_weighs_125 (by decide) ?_
                refine lv_icmp_ne (tgt := 136) hx hb dX9_weighs_126 (by decide) (fun c56 => ?_) (fun c56 => ?_)
                · exfalso; have := q_ne (b := 0) (by decide) c3; have := q_le (b := 3) (by decide) c8; have := q_eq (b := 3) (by decide) c9; have := q_ne (b := 3) (by decide) c56; omega
                · skip
                  refine lv_bipush (v := 10) hx hb dX9_weighs_129 (by decide) ?_
                  refine lv_iload_n hx hb dX9_weighs_131 rfl (lv_at hl 0 rfl) ?_
                  refine lv_imul hx hb dX9_weighs_132 ?_
                  refine lv_goto (tgt := 139) hx hb dX9_weighs_133 (by decide) ?_
                  refine lv_iadd hx hb dX9_weighs_139 ?_
                  refine lv_istore (lv' := [(4, .int ((N54 22 0 x1.toNatClampNeg) + (10 * 8))), (3, .int 8), (2, .int (N1 21 0 x1.toNatClampNeg)), (0, .ref (ad 20 0)), (1, .int x1)]) hx hb dX9_weighs_140 hl (by decide) rfl (fun ls hl => ?_)
                  refine lv_iload_n hx hb dX9_weighs_142 rfl (lv_at hl 2 rfl) ?_
                  refine lv_iconst (v := 1) hx hb dX9_weighs_143 (by decide) ?_
                  refine lv_icmp_ne (tgt := 152) hx hb dX9_weighs_144 (by decide) (fun c57 => ?_) (fun c57 => ?_)
                  · skip
                    refine lv_iload_n hx hb dX9_weighs_152 rfl (lv_at hl 2 rfl) ?_
                    refine lv_iconst (v := 2) hx hb dX9_weighs_153 (by decide) ?_
                    refine lv_icmp_ne (tgt := 164) hx hb dX9_weighs_154 (by decide) (fun c58 => ?_) (fun c58 => ?_)
                    · skip
                      refine lv_iconst (v := 2) hx hb dX9_weighs_164 (by decide) ?_
                      refine lv_iload hx hb dX9_weighs_165 (lv_at hl 0 rfl) ?_
                      refine lv_imul hx hb dX9_weighs_167 ?_
                      refine lv_iconst (v := 1) hx hb dX9_weighs_168 (by decide) ?_
                      refine lv_isub hx hb dX9_weighs_169 ?_
                      obtain ⟨rfl, rfl⟩ := sp2 hf
                      exact e_i ⟨hx, hb, hr, hlk⟩ hW hS dX9_weighs_170
                    · exfalso; have := q_ne (b := 0) (by decide) c3; have := q_le (b := 3) (by decide) c8; have := q_eq (b := 3) (by decide) c9; have := q_eq (b := 2) (by decide) c58; omega
                  · exfalso; have := q_ne (b := 0) (by decide) c3; have := q_le (b := 3) (by decide) c8; have := q_eq (b := 3) (by decide) c9; have := q_eq (b := 1) (by decide) c57; omega
              · exfalso; have := q_ne (b := 0) (by decide) c3; have := q_le (b := 3) (by decide) c8; have := q_eq (b := 3) (by decide) c9; have := q_eq (b := 1) (by decide) c55; omega
            · exfalso; have := q_ne (b := 0) (by decide) c3; have := q_le (b := 3) (by decide) c8; have := q_eq (b := 3) (by decide) c9; have := q_eq (b := 1) (by decide) c52; omega
    · rw [if_neg c8] at hf
      refine lv_aload_n hx hb dX9_weighs_21 rfl (lv_at hl 1 rfl) ?_
      refine lv_iload_n hx hb dX9_weighs_22 rfl (lv_at hl 0 rfl) ?_
      refine lv_if_ne (tgt := 30) hx hb dX9_weighs_23 (by decide) (fun c59 => ?_) (fun c59 => ?_)
      · skip
        refine lv_iconst (v := 5) hx hb dX9_weighs_30 (by decide) ?_
        obtain ⟨N61, h60, hf⟩ := ob1_some hf
        refine k_yX9_leaves X hK hZ hW hS hl.1 h60 mlRX9_135 ⟨Nat.le_of_ble_eq_true rfl, Nat.le_of_ble_eq_true rfl⟩ ⟨Nat.le_of_ble_eq_true rfl, Nat.le_of_ble_eq_true rfl⟩ (Nat.le_of_ble_eq_true rfl) dX9_weighs_31 (fun H locs hW hS => ?_)
        refine lv_iload_n hx hb dX9_weighs_34 rfl (lv_at hl 0 rfl) ?_
        refine lv_if_ne (tgt := 42) hx hb dX9_weighs_35 (by decide) (fun c62 => ?_) (fun c62 => ?_)
        · skip
          refine lv_aload_n hx hb dX9_weighs_42 rfl (lv_at hl 1 rfl) ?_
          refine g_9_3 X hK hW flRX9_16 dX9_weighs_43 ?_
          refine lv_iload_n hx hb dX9_weighs_46 rfl (lv_at hl 2 rfl) ?_
          refine al_23 X hK hW b2 dX9_weighs_47 ?_
          obtain ⟨rfl, rfl⟩ := sp2 hf
          exact e_i ⟨hx, hb, hr, hlk⟩ hW hS dX9_weighs_48
        · exfalso; have := q_ne (b := 0) (by decide) c3; have := q_nle (b := 3) (by decide) c8; have := q_eq (b := 0) (by decide) c62; omega
      · exfalso; have := q_ne (b := 0) (by decide) c3; have := q_nle (b := 3) (by decide) c8; have := q_eq (b := 0) (by decide) c59; omega
set_option maxRecDepth 100000 in
set_option maxHeartbeats 4000000 in
theorem k_yX9_weighs {p : Program} {l : Launch} {e : Env} {R : Room} {s : State} {m : MethodId} {args : Array Value} {below : List Frame} {meth : Method} {c : Code} {H : Heap} {locs : List Loc} {cells slots : Nat} {Q : State → Prop} {cc : ByteArray} {pc nL index : Nat} {ret : Option FieldType} {own : String} {ls : Array Slot} {rest : List Value} {E : Lay} {ad : Nat → Nat → Nat} {M N : Mem} (X : CX p s m args meth c cc nL ret own) (hK : KK E s) (hZ : ZZ E s) (hW : WD E ad (M, N) H) (hS : va_S (ow E) s.heap H locs) (hsz : ls.size = nL) {x1 : Int32} {r : Int32} {Nr : Mem} (hf : f_yX9_weighs N x1 = some (r, Nr)) (hn : Cond.methodLink own index yX9_weighs ∈ TB) (hR : 1 + 1 ≤ R.frames ∧ 8 + (5 + 11) + 21 ≤ R.locals) (hC : cells ≤ R.cells ∧ slots ≤ R.slots) (h8 : (rest.map fun v => v.category).sum ≤ 8) (hdg : decode cc pc = .ok (.invokevirtual index, 3)) (kk : ∀ (H1 : Heap) (locs1 : List Loc), WD E ad (M, Nr) H1 → va_S (ow E) s.heap H1 locs1 → W p l e R s m args below meth c H1 locs1 cells slots Q (F0 m (pc + 3) ls (.int r :: rest))) : W p l e R s m args below meth c H locs cells slots Q (F0 m pc ls (.int x1 :: .ref (ad 20 0) :: rest)) := by
  refine va_calli (va_runV (C := RX9) (As := [.int x1]) (rest := rest) ⟨X.1, X.2.1, X.2.2.1, X.2.2.2.1, X.2.2.2.2.1⟩ (c_yX9_weighs l E ad M N x1 r Nr hf) (cwV 1 X.2.2.2.2.1 (gV hn im_yX9_weighs se_yX9_weighs iniRX9 cd_yX9_weighs) rfl rfl rfl (by decide +kernel) hR) ⟨fun a U g mk q => ⟨q.1, q.2.calling⟩, va_recv hK.1 (hW.at (c := 20) (i := 0) Nat.zero_lt_one rfl) (ci := 9) (q0 := 0) rfl rfl, fun U hU hw => ⟨rfl, PB.at hW hK hZ hS hU hw⟩⟩ rfl rfl hsz rfl (lv_room h8) hdg hC) hS (fun _ _ h => h) (fun _ h => h) (fun r' u t H1 locs1 ht hvm hw hB hz1 hk1 hS1 => ?_)
  obtain ⟨rfl, rfl⟩ := hw
  rw [ht] at hB
  exact kk H1 locs1 hB hS1
def f_yX9_weigh (N : Mem) (x1 : Int32) : Option (Int32 × Mem) := ob1 (f_yX9_isThing N x1) (fun r2 => (if r2 = 0 then (some ((-1), N)) else ob2 (f_yX9_weighs N x1) (fun r5 N6 => (some (r5, N6)))))
set_option maxRecDepth 100000 in
set_option maxHeartbeats 4000000 in
theorem c_yX9_weigh (l : Launch) (E : Lay) (ad : Nat → Nat → Nat) (M N : Mem) (x1 : Int32) (r : Int32) (Nr : Mem) (hf : f_yX9_weigh N x1 = some (r, Nr)) : Met l yX9_weigh (Cond.code yX9_weigh cX9_weigh 2 (some .int) :: TB) (rmm 2 45) (va_Pc [.ref (ad 20 0), .int x1] (PB E ad (M, N))) (Qi E ad r (M, Nr)) 0 0 (ow E) := by
  refine Met.ofW (cc := cX9_weigh) (maxL := 2) (ret := (some .int)) (by decide) rfl ?_
  intro p e s m args below meth c s₁ B hml hv
  obtain ⟨rfl, hW, hK, hZ⟩ := hv
  have hT : ∀ w ∈ TB, w.before _ s = true := fun w h => atoms_spec (ws := (Cond.code yX9_weigh cX9_weigh 2 (some .int) :: TB)) B.pre w (List.mem_cons_of_mem _ h)
  have X : CX p s m _ meth c cX9_weigh 2 (some .int) RX9 := ⟨B.exec, B.bytes, hml, findClass_of_methodNamed B.named, hT, B.returns, B.notSynchronized⟩
  obtain ⟨hx, hb, hml, hown, hT, hr, hlk⟩ := id X
  have hS : va_S (ow E) s.heap s.heap [] := va_S.rf
  have hl := lv_entry ([.ref (ad 20 0), .int x1]) (n := 2) (Nat.le_of_ble_eq_true rfl)
  rw [lg_entry_eq]
  generalize (lg_sl ([.ref (ad 20 0), .int x1]) ++ List.replicate (2 - (lg_sl ([.ref (ad 20 0), .int x1])).length) Slot.unset).toArray = ls at hl ⊢
  have hl : lv_has ls 2 [(0, .ref (ad 20 0)), (1, .int x1)] := hl
  unfold f_yX9_weigh at hf
  refine lv_aload_n hx hb dX9_weigh_0 rfl (lv_at hl 0 rfl) ?_
  refine lv_iload_n hx hb dX9_weigh_1 rfl (lv_at hl 1 rfl) ?_
  obtain ⟨r2, h1, hf⟩ := ob1_some hf
  refine k_yX9_isThing X hK hZ hW hS hl.1 h1 mlRX9_122 ⟨Nat.le_of_ble_eq_true rfl, Nat.le_of_ble_eq_true rfl⟩ ⟨Nat.le_of_ble_eq_true rfl, Nat.le_of_ble_eq_true rfl⟩ (Nat.le_of_ble_eq_true rfl) dX9_weigh_2 (fun H locs hW hS => ?_)
  refine lv_if_eq (tgt := 16) hx hb dX9_weigh_5 (by decide) (fun c3 => ?_) (fun c3 => ?_)
  · rw [if_pos c3] at hf
    refine lv_iconst (v := -1) hx hb dX9_weigh_16 (by decide) ?_
    obtain ⟨rfl, rfl⟩ := sp2 hf
    exact e_i ⟨hx, hb, hr, hlk⟩ hW hS dX9_weigh_17
  · rw [if_neg c3] at hf
    refine lv_aload_n hx hb dX9_weigh_8 rfl (lv_at hl 0 rfl) ?_
    refine lv_iload_n hx hb dX9_weigh_9 rfl (lv_at hl 1 rfl) ?_
    obtain ⟨r5, N6, h4, hf⟩ := ob2_some hf
    refine k_yX9_weighs X hK hZ hW hS hl.1 h4 mlRX9_139 ⟨Nat.le_of_ble_eq_true rfl, Nat.le_of_ble_eq_true rfl⟩ ⟨Nat.le_of_ble_eq_true rfl, Nat.le_of_ble_eq_true rfl⟩ (Nat.le_of_ble_eq_true rfl) dX9_weigh_10 (fun H locs hW hS => ?_)
    refine lv_goto (tgt := 17) hx hb dX9_weigh_13 (by decide) ?_
    obtain ⟨rfl, rfl⟩ := sp2 hf
    exact e_i ⟨hx, hb, hr, hlk⟩ hW hS dX9_weigh_17
set_option maxRecDepth 100000 in
set_option maxHeartbeats 4000000 in
theorem k_yX9_weigh {p : Program} {l : Launch} {e : Env} {R : Room} {s : State} {m : MethodId} {args : Array Value} {below : List Frame} {meth : Method} {c : Code} {H : Heap} {locs : List Loc} {cells slots : Nat} {Q : State → Prop} {cc : ByteArray} {pc nL index : Nat} {ret : Option FieldType} {own : String} {ls : Array Slot} {rest : List Value} {E : Lay} {ad : Nat → Nat → Nat} {M N : Mem} (X : CX p s m args meth c cc nL ret own) (hK : KK E s) (hZ : ZZ E s) (hW : WD E ad (M, N) H) (hS : va_S (ow E) s.heap H locs) (hsz : ls.size = nL) {x1 : Int32} {r : Int32} {Nr : Mem} (hf : f_yX9_weigh N x1 = some (r, Nr)) (hn : Cond.methodLink own index yX9_weigh ∈ TB) (hR : 2 + 1 ≤ R.frames ∧ 8 + (2 + 11) + 45 ≤ R.locals) (hC : cells ≤ R.cells ∧ slots ≤ R.slots) (h8 : (rest.map fun v => v.category).sum ≤ 8) (hdg : decode cc pc = .ok (.invokevirtual index, 3)) (kk : ∀ (H1 : Heap) (locs1 : List Loc), WD E ad (M, Nr) H1 → va_S (ow E) s.heap H1 locs1 → W p l e R s m args below meth c H1 locs1 cells slots Q (F0 m (pc + 3) ls (.int r :: rest))) : W p l e R s m args below meth c H locs cells slots Q (F0 m pc ls (.int x1 :: .ref (ad 20 0) :: rest)) := by
  refine va_calli (va_runV (C := RX9) (As := [.int x1]) (rest := rest) ⟨X.1, X.2.1, X.2.2.1, X.2.2.2.1, X.2.2.2.2.1⟩ (c_yX9_weigh l E ad M N x1 r Nr hf) (cwV 1 X.2.2.2.2.1 (gV hn im_yX9_weigh se_yX9_weigh iniRX9 cd_yX9_weigh) rfl rfl rfl (by decide +kernel) hR) ⟨fun a U g mk q => ⟨q.1, q.2.calling⟩, va_recv hK.1 (hW.at (c := 20) (i := 0) Nat.zero_lt_one rfl) (ci := 9) (q0 := 0) rfl rfl, fun U hU hw => ⟨rfl, PB.at hW hK hZ hS hU hw⟩⟩ rfl rfl hsz rfl (lv_room h8) hdg hC) hS (fun _ _ h => h) (fun _ h => h) (fun r' u t H1 locs1 ht hvm hw hB hz1 hk1 hS1 => ?_)
  obtain ⟨rfl, rfl⟩ := hw
  rw [ht] at hB
  exact kk H1 locs1 hB hS1
def f_yX9_trace (N : Mem) (x1 : Int32) : Option (Int32) := ob1 (f_yX9_in x1 0 ((N 20 0 1) - 1)) (fun r2 => (if r2 = 0 then (some (-4)) else gd (¬ (x1 < 0 ∨ 40 ≤ x1.toNatClampNeg)) ((some (N 27 0 x1.toNatClampNeg)))))
set_option maxRecDepth 100000 in
set_option maxHeartbeats 4000000 in
theorem c_yX9_trace (l : Launch) (E : Lay) (ad : Nat → Nat → Nat) (M N : Mem) (x1 : Int32) (r : Int32) (hf : f_yX9_trace N x1 = some r) : Met l yX9_trace (Cond.code yX9_trace cX9_trace 2 (some .int) :: TB) (rmm 1 22) (va_Pc [.ref (ad 20 0), .int x1] (PB E ad (M, N))) (Qi E ad r (M, N)) 0 0 (ow E) := by
  refine Met.ofW (cc := cX9_trace) (maxL := 2) (ret := (some .int)) (by decide) rfl ?_
  intro p e s m args below meth c s₁ B hml hv
  obtain ⟨rfl, hW, hK, hZ⟩ := hv
  have hT : ∀ w ∈ TB, w.before _ s = true := fun w h => atoms_spec (ws := (Cond.code yX9_trace cX9_trace 2 (some .int) :: TB)) B.pre w (List.mem_cons_of_mem _ h)
  have X : CX p s m _ meth c cX9_trace 2 (some .int) RX9 := ⟨B.exec, B.bytes, hml, findClass_of_methodNamed B.named, hT, B.returns, B.notSynchronized⟩
  obtain ⟨hx, hb, hml, hown, hT, hr, hlk⟩ := id X
  have hS : va_S (ow E) s.heap s.heap [] := va_S.rf
  have hl := lv_entry ([.ref (ad 20 0), .int x1]) (n := 2) (Nat.le_of_ble_eq_true rfl)
  rw [lg_entry_eq]
  generalize (lg_sl ([.ref (ad 20 0), .int x1]) ++ List.replicate (2 - (lg_sl ([.ref (ad 20 0), .int x1])).length) Slot.unset).toArray = ls at hl ⊢
  have hl : lv_has ls 2 [(0, .ref (ad 20 0)), (1, .int x1)] := hl
  unfold f_yX9_trace at hf
  refine lv_iload_n hx hb dX9_trace_0 rfl (lv_at hl 1 rfl) ?_
  refine lv_iconst (v := 0) hx hb dX9_trace_1 (by decide) ?_
  refine lv_aload_n hx hb dX9_trace_2 rfl (lv_at hl 0 rfl) ?_
  refine g_9_8 X hK hW flRX9_132 dX9_trace_3 ?_
  refine lv_iconst (v := 1) hx hb dX9_trace_6 (by decide) ?_
  refine lv_isub hx hb dX9_trace_7 ?_
  obtain ⟨r2, h1, hf⟩ := ob1_some hf
  refine k_yX9_in X hK hZ hW hS hl.1 h1 mlRX9_114 ⟨Nat.le_of_ble_eq_true rfl, Nat.le_of_ble_eq_true rfl⟩ ⟨Nat.le_of_ble_eq_true rfl, Nat.le_of_ble_eq_true rfl⟩ (Nat.le_of_ble_eq_true rfl) dX9_trace_8 (fun H locs hW hS => ?_)
  refine lv_if_eq (tgt := 23) hx hb dX9_trace_11 (by decide) (fun c3 => ?_) (fun c3 => ?_)
  · rw [if_pos c3] at hf
    refine lv_bipush (v := -4) hx hb dX9_trace_23 (by decide) ?_
    obtain rfl := sp1 hf
    exact e_i ⟨hx, hb, hr, hlk⟩ hW hS dX9_trace_25
  · rw [if_neg c3] at hf
    refine lv_aload_n hx hb dX9_trace_14 rfl (lv_at hl 0 rfl) ?_
    refine g_9_7 X hK hW flRX9_28 dX9_trace_15 ?_
    refine lv_iload_n hx hb dX9_trace_18 rfl (lv_at hl 1 rfl) ?_
    obtain ⟨b4, hf⟩ := gd_some hf
    refine al_27 X hK hW b4 dX9_trace_19 ?_
    refine lv_goto (tgt := 25) hx hb dX9_trace_20 (by decide) ?_
    obtain rfl := sp1 hf
    exact e_i ⟨hx, hb, hr, hlk⟩ hW hS dX9_trace_25
set_option maxRecDepth 100000 in
set_option maxHeartbeats 4000000 in
theorem k_yX9_trace {p : Program} {l : Launch} {e : Env} {R : Room} {s : State} {m : MethodId} {args : Array Value} {below : List Frame} {meth : Method} {c : Code} {H : Heap} {locs : List Loc} {cells slots : Nat} {Q : State → Prop} {cc : ByteArray} {pc nL index : Nat} {ret : Option FieldType} {own : String} {ls : Array Slot} {rest : List Value} {E : Lay} {ad : Nat → Nat → Nat} {M N : Mem} (X : CX p s m args meth c cc nL ret own) (hK : KK E s) (hZ : ZZ E s) (hW : WD E ad (M, N) H) (hS : va_S (ow E) s.heap H locs) (hsz : ls.size = nL) {x1 : Int32} {r : Int32} (hf : f_yX9_trace N x1 = some r) (hn : Cond.methodLink own index yX9_trace ∈ TB) (hR : 1 + 1 ≤ R.frames ∧ 8 + (2 + 11) + 22 ≤ R.locals) (hC : cells ≤ R.cells ∧ slots ≤ R.slots) (h8 : (rest.map fun v => v.category).sum ≤ 8) (hdg : decode cc pc = .ok (.invokevirtual index, 3)) (kk : ∀ (H1 : Heap) (locs1 : List Loc), WD E ad (M, N) H1 → va_S (ow E) s.heap H1 locs1 → W p l e R s m args below meth c H1 locs1 cells slots Q (F0 m (pc + 3) ls (.int r :: rest))) : W p l e R s m args below meth c H locs cells slots Q (F0 m pc ls (.int x1 :: .ref (ad 20 0) :: rest)) := by
  refine va_calli (va_runV (C := RX9) (As := [.int x1]) (rest := rest) ⟨X.1, X.2.1, X.2.2.1, X.2.2.2.1, X.2.2.2.2.1⟩ (c_yX9_trace l E ad M N x1 r hf) (cwV 1 X.2.2.2.2.1 (gV hn im_yX9_trace se_yX9_trace iniRX9 cd_yX9_trace) rfl rfl rfl (by decide +kernel) hR) ⟨fun a U g mk q => ⟨q.1, q.2.calling⟩, va_recv hK.1 (hW.at (c := 20) (i := 0) Nat.zero_lt_one rfl) (ci := 9) (q0 := 0) rfl rfl, fun U hU hw => ⟨rfl, PB.at hW hK hZ hS hU hw⟩⟩ rfl rfl hsz rfl (lv_room h8) hdg hC) hS (fun _ _ h => h) (fun _ h => h) (fun r' u t H1 locs1 ht hvm hw hB hz1 hk1 hS1 => ?_)
  obtain ⟨rfl, rfl⟩ := hw
  rw [ht] at hB
  exact kk H1 locs1 hB hS1
