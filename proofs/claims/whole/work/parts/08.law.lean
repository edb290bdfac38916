/-! the law -/
def f_st (P : Mem × Mem) (o y1 y2 y3 y4 y5 : Int32) : Option (Mem × Mem) :=
  if o = 0 then ob2 (f_yX8_thing P.1 y1 y2) (fun r1 M1 => ob2 (f_yX9_thing P.2 y1 y2) (fun r2 N1 => gd (r1 = r2) (some (M1, N1)))) else
  if o = 1 then ob1 (f_yX8_of P.1 y1 y2) (fun r1 => ob1 (f_yX9_of P.2 y1 y2) (fun r2 => gd (r1 = r2) (some (P.1, P.2)))) else
  if o = 2 then ob1 (f_yX8_item P.1 y1 y2) (fun r1 => ob1 (f_yX9_item P.2 y1 y2) (fun r2 => gd (r1 = r2) (some (P.1, P.2)))) else
  if o = 3 then ob2 (f_yX8_weigh P.1 y1) (fun r1 M1 => ob2 (f_yX9_weigh P.2 y1) (fun r2 N1 => gd (r1 = r2) (some (M1, N1)))) else
  if o = 4 then ob1 (f_yX8_trace P.1 y1) (fun r1 => ob1 (f_yX9_trace P.2 y1) (fun r2 => gd (r1 = r2) (some (P.1, P.2)))) else
  if o = 5 then ob2 (f_yX8_act P.1 y1 y2 y3 y4 y5) (fun r1 M1 => ob2 (f_yX9_act P.2 y1 y2 y3 y4 y5) (fun r2 N1 => gd (r1 = r2) (some (M1, N1)))) else
  if o = 6 then ob2 (f_yX8_wipe P.1 y1) (fun r1 M1 => ob2 (f_yX9_wipe P.2 y1) (fun r2 N1 => gd (r1 = r2) (some (M1, N1)))) else
  if o = 7 then ob2 (f_yX8_thread P.1 y1 y2 y3) (fun r1 M1 => ob2 (f_yX9_thread P.2 y1 y2 y3) (fun r2 N1 => gd (r1 = r2) (some (M1, N1)))) else
  if o = 8 then ob2 (f_yX8_set P.1 y1 y2 y3) (fun r1 M1 => ob2 (f_yX9_set P.2 y1 y2 y3) (fun r2 N1 => gd (r1 = r2) (some (M1, N1)))) else
  if o = 9 then ob2 (f_yX8_give P.1 y1 y2 y3) (fun r1 M1 => ob2 (f_yX9_give P.2 y1 y2 y3) (fun r2 N1 => gd (r1 = r2) (some (M1, N1)))) else
  if o = 10 then ob2 (f_yX8_start P.1 y1) (fun r1 M1 => ob2 (f_yX9_start P.2 y1) (fun r2 N1 => gd (r1 = r2) (some (M1, N1)))) else
  if o = 11 then ob2 (f_yX8_broken P.1 y1) (fun r1 M1 => ob2 (f_yX9_broken P.2 y1) (fun r2 N1 => gd (r1 = r2) (some (M1, N1)))) else
  if o = 12 then ob2 (f_yX8_rule P.1 y1) (fun r1 M1 => ob2 (f_yX9_rule P.2 y1) (fun r2 N1 => gd (r1 = r2) (some (M1, N1)))) else
  if o = 13 then ob2 (f_yX8_order P.1 y1) (fun r1 M1 => ob2 (f_yX9_order P.2 y1) (fun r2 N1 => gd (r1 = r2) (some (M1, N1)))) else
  if o = 14 then ob2 (f_yX8_turn P.1) (fun r1 M1 => ob2 (f_yX9_turn P.2) (fun r2 N1 => gd (r1 = r2) (some (M1, N1)))) else
  if o = 15 then ob2 (f_yX8_run P.1 y1) (fun r1 M1 => ob2 (f_yX9_run P.2 y1) (fun r2 N1 => gd (r1 = r2) (some (M1, N1)))) else
  if o = 16 then ob1 (f_yX8_told P.1 y1 y2) (fun r1 => ob1 (f_yX9_told P.2 y1 y2) (fun r2 => gd (r1 = r2) (some (P.1, P.2)))) else
  if o = 17 then ob1 (f_yX8_register P.1 y1 y2) (fun r1 => ob1 (f_yX9_register P.2 y1 y2) (fun r2 => gd (r1 = r2) (some (P.1, P.2)))) else
  if o = 18 then ob1 (f_yX8_hand P.1 y1 y2) (fun r1 => ob1 (f_yX9_hand P.2 y1 y2) (fun r2 => gd (r1 = r2) (some (P.1, P.2)))) else
  if o = 19 then ob1 (f_yX8_ring P.1 y1) (fun r1 => ob1 (f_yX9_ring P.2 y1) (fun r2 => gd (r1 = r2) (some (P.1, P.2)))) else
  if o = 20 then ob1 (f_yX8_log P.1 y1 y2) (fun r1 => ob1 (f_yX9_log P.2 y1 y2) (fun r2 => gd (r1 = r2) (some (P.1, P.2)))) else
  if o = 21 then ob1 (f_yX8_count P.1 y1) (fun r1 => ob1 (f_yX9_count P.2 y1) (fun r2 => gd (r1 = r2) (some (P.1, P.2)))) else some P
def f_law (xs : Nat → Int32) (L : Nat) : Nat → Nat → (Mem × Mem) → Option Unit
  | 0, _, _ => none
  | n + 1, j, P => if 6 * j + 6 ≤ L then ob1 (f_st P (xs (6 * j) &&& 31) (xs (6 * j + 1)) (xs (6 * j + 2)) (xs (6 * j + 3)) (xs (6 * j + 4)) (xs (6 * j + 5))) (fun P1 => f_law xs L n (j + 1) P1) else some ()
theorem lw_ld {p : Program} {l : Launch} {e : Env} {R : Room} {s : State} {m : MethodId} {args : Array Value} {below : List Frame} {meth : Method} {c : Code} {H : Heap} {locs : List Loc} {cells slots : Nat} {Q : State → Prop} {cc : ByteArray} {pc nL : Nat} {ret : Option FieldType} {own : String} {ls : Array Slot} {rest : List Value} {E : Lay} (X : CX p s m args meth c cc nL ret own) {b L : Nat} {xs : Nat → Int32} (hX : va_X b L xs s s.heap) (hbl : b < s.heap.size) (hbA : ¬ ow E b) (hS : va_S (ow E) s.heap H locs) {x : Int32} {k : Nat} (hk : x = nI k) (hkL : k < L) (hL : L ≤ 3072) (hdg : decode cc pc = .ok (.iaload, 1)) (kk : W p l e R s m args below meth c H locs cells slots Q (F0 m (pc + 1) ls (.int (xs k) :: rest))) : W p l e R s m args below meth c H locs cells slots Q (F0 m pc ls (.int x :: .ref b :: rest)) := by
  subst hk
  refine va_sld X.1 X.2.1 hX hbl hbA hS (vp_in_nI hkL (by omega)) hdg ?_
  rw [nI_clamp (by omega)]
  exact kk
set_option maxRecDepth 100000 in
set_option maxHeartbeats 16000000 in
theorem law_loop {p : Program} {e : Env} {s : State} {m : MethodId} {below : List Frame} {meth : Method} {c : Code} (l : Launch) {b L : Nat} {xs : Nat → Int32} (hL : L ≤ 3072) (X : CX p s m #[Value.ref b] meth c cL_law 4 (some .boolean) RL) (hX : va_X b L xs s s.heap) (hbl : b < s.heap.size) {E : Lay} (hE0 : E.2.2.1 = s.heap.size) (hK : KK E s) (hZ : ZZ E s) :
    ∀ (n j : Nat) (P : Mem × Mem) (ad : Nat → Nat → Nat) (H : Heap) (locs : List Loc) (ls : Array Slot), j ≤ 512 → f_law xs L n j P = some () → WD E ad P H → va_S (ow E) s.heap H locs → lv_has ls 4 [(0, .ref b), (1, .ref (ad 0 0)), (2, .ref (ad 20 0)), (3, .int (nI (6 * j)))] →
    W p l e room_1 s m #[Value.ref b] below meth c H locs (200 + 122 * j) (8000 + 1098 * j) (lw_Z below #[Value.ref b] s) (F0 m 18 ls []) := by
  obtain ⟨hx, hb, hml, hown, hT, hr, hlk⟩ := id X
  have hbA : ¬ ow E b := by show ¬ (E.2.2.1 ≤ b); omega
  intro n
  induction n with
  | zero =>
    intro j P ad H locs ls hj hf
    rw [f_law] at hf
    cases hf
  | succ n ih =>
    intro j P ad H locs ls hj hf hW hS hl
    obtain ⟨M, N⟩ := P
    rw [f_law] at hf
    have e6 : (nI L - 6).toInt = (L : Int) - 6 := pk_sub_toInt (a := L) (b := 6) (by omega) (by omega)
    have ei : (nI (6 * j)).toInt = ((6 * j : Nat) : Int) := nI_toInt (by omega)
    refine lv_iload_n hx hb dL_law_18 rfl (lv_at hl 3 rfl) ?_
    refine lv_aload_n hx hb dL_law_19 rfl (lv_at hl 0 rfl) ?_
    refine va_slen hx hb hX hbl hbA hS dL_law_20 ?_
    refine lv_bipush (v := 6) hx hb dL_law_21 (by decide) ?_
    refine lv_isub hx hb dL_law_23 ?_
    refine lv_icmp_gt (tgt := 808) hx hb dL_law_24 (by decide) (fun cg => ?_) (fun cg => ?_)
    · refine lv_iconst (v := 1) hx hb dL_law_808 (by decide) ?_
      refine va_forget (fun q hq => by rw [← hE0]; exact hS.2.2 q hq) ?_
      refine W.widen (k := 600000) (n := 7302250) (by omega) (by omega) ?_
      exact lw_ret hx hb hr hlk dL_law_809
    · have hlt : 6 * j + 6 ≤ L := by
        have := q_ngt (x := nI (6 * j)) (y := nI L - 6) (b := (L : Int) - 6) e6 cg
        rw [ei] at this
        omega
      rw [if_pos hlt] at hf
      obtain ⟨P1, h1, h2f⟩ := ob1_some hf
      unfold f_st at h1
      have nxt : ∀ (P1 : Mem × Mem) (ad1 : Nat → Nat → Nat) (H1 : Heap) (locs1 : List Loc) (ls : Array Slot) (cs sl : Nat), cs ≤ 200 + 122 * (j + 1) → sl ≤ 8000 + 1098 * (j + 1) → f_law xs L n (j + 1) P1 = some () → WD E ad1 P1 H1 → va_S (ow E) s.heap H1 locs1 → lv_has ls 4 [(0, .ref b), (1, .ref (ad1 0 0)), (2, .ref (ad1 20 0)), (3, .int (nI (6 * j)))] → W p l e room_1 s m #[Value.ref b] below meth c H1 locs1 cs sl (lw_Z below #[Value.ref b] s) (F0 m 802 ls []) := by
        intro P1 ad1 H1 locs1 ls cs sl g1 g2 g3 g4 g5 g6
        refine lv_iinc (v := nI (6 * (j + 1))) (lv' := [(3, .int (nI (6 * (j + 1)))), (0, .ref b), (1, .ref (ad1 0 0)), (2, .ref (ad1 20 0))]) hx hb dL_law_802 g6 (k := 3) rfl (nI_add (6 * j) 6) (by decide) rfl (fun ls hl => ?_)
        refine lv_goto (tgt := 18) hx hb dL_law_805 (by decide) ?_
        refine W.widen (k := 200 + 122 * (j + 1)) (n := 8000 + 1098 * (j + 1)) g1 g2 ?_
        exact ih (j + 1) P1 ad1 _ _ _ (by omega) g3 g4 g5 (lv_sub hl [1, 2, 3, 0] rfl)
      refine lv_aload_n hx hb dL_law_27 rfl (lv_at hl 0 rfl) ?_
      refine lv_iload_n hx hb dL_law_28 rfl (lv_at hl 3 rfl) ?_
      refine lw_ld X hX hbl hbA hS (k := 6 * j) rfl (by omega) hL dL_law_29 ?_
      refine lv_bipush (v := 31) hx hb dL_law_30 (by decide) ?_
      refine lv_iand hx hb dL_law_32 ?_
      by_cases c0 : xs (6 * j) &&& 31 = 0
      · rw [if_pos c0] at h1
        have hf := h1
        refine lv_tableIn (tgt := 136) hx hb dL_law_33 (by rw [c0]; decide) (by rw [c0]; decide) (by rw [c0]; rfl) (by decide) ?_
        refine lv_aload_n hx hb dL_law_136 rfl (lv_at hl 1 rfl) ?_
        refine lv_aload_n hx hb dL_law_137 rfl (lv_at hl 0 rfl) ?_
        refine lv_iload_n hx hb dL_law_138 rfl (lv_at hl 3 rfl) ?_
        refine lv_iconst (v := 1) hx hb dL_law_139 (by decide) ?_
        refine lv_iadd hx hb dL_law_140 ?_
        refine lw_ld X hX hbl hbA hS (k := 6 * j + 1) (nI_add (6 * j) 1) (by omega) hL dL_law_141 ?_
        refine lv_aload_n hx hb dL_law_142 rfl (lv_at hl 0 rfl) ?_
        refine lv_iload_n hx hb dL_law_143 rfl (lv_at hl 3 rfl) ?_
        refine lv_iconst (v := 2) hx hb dL_law_144 (by decide) ?_
        refine lv_iadd hx hb dL_law_145 ?_
        refine lw_ld X hX hbl hbA hS (k := 6 * j + 2) (nI_add (6 * j) 2) (by omega) hL dL_law_146 ?_
        obtain ⟨r1, M1, h1, hf⟩ := ob2_some hf
        refine k_yX8_thing X hK hZ hW hS hl.1 h1 mlRL_13 ⟨Nat.le_of_ble_eq_true rfl, Nat.le_of_ble_eq_true rfl⟩ ⟨by show 200 + 122 * j + 2 ≤ 600000; omega, by show 8000 + 1098 * j + 18 ≤ 7302250; omega⟩ (Nat.le_of_ble_eq_true rfl) dL_law_147 (fun ad1 H locs hE hW hS => ?_)
        have hl : lv_has ls 4 [(0, .ref b), (1, .ref (ad1 0 0)), (2, .ref (ad1 20 0)), (3, .int (nI (6 * j)))] := by rw [hE 0 0 (by decide) (by decide), hE 20 0 (by decide) (by decide)]; exact hl
        refine lv_aload_n hx hb dL_law_150 rfl (lv_at hl 2 rfl) ?_
        refine lv_aload_n hx hb dL_law_151 rfl (lv_at hl 0 rfl) ?_
        refine lv_iload_n hx hb dL_law_152 rfl (lv_at hl 3 rfl) ?_
        refine lv_iconst (v := 1) hx hb dL_law_153 (by decide) ?_
        refine lv_iadd hx hb dL_law_154 ?_
        refine lw_ld X hX hbl hbA hS (k := 6 * j + 1) (nI_add (6 * j) 1) (by omega) hL dL_law_155 ?_
        refine lv_aload_n hx hb dL_law_156 rfl (lv_at hl 0 rfl) ?_
        refine lv_iload_n hx hb dL_law_157 rfl (lv_at hl 3 rfl) ?_
        refine lv_iconst (v := 2) hx hb dL_law_158 (by decide) ?_
        refine lv_iadd hx hb dL_law_159 ?_
        refine lw_ld X hX hbl hbA hS (k := 6 * j + 2) (nI_add (6 * j) 2) (by omega) hL dL_law_160 ?_
        obtain ⟨r2, N1, h2, hf⟩ := ob2_some hf
        refine k_yX9_thing X hK hZ hW hS hl.1 h2 mlRL_17 ⟨Nat.le_of_ble_eq_true rfl, Nat.le_of_ble_eq_true rfl⟩ ⟨by show 200 + 122 * j + 2 ≤ 600000; omega, by show 8000 + 1098 * j + 18 ≤ 7302250; omega⟩ (Nat.le_of_ble_eq_true rfl) dL_law_161 (fun H locs hW hS => ?_)
        obtain ⟨hre, hf⟩ := gd_some hf
        refine lv_icmp_eq (tgt := 802) hx hb dL_law_164 (by decide) (fun _ => ?_) (fun cn => absurd hre cn)
        obtain rfl := sp1 hf
        exact nxt (M1, N1) ad1 _ _ ls (200 + 122 * j + 2) (8000 + 1098 * j + 18) (by omega) (by omega) h2f hW hS hl
      rw [if_neg c0] at h1
      by_cases c1 : xs (6 * j) &&& 31 = 1
      · rw [if_pos c1] at h1
        have hf := h1
        refine lv_tableIn (tgt := 169) hx hb dL_law_33 (by rw [c1]; decide) (by rw [c1]; decide) (by rw [c1]; rfl) (by decide) ?_
        refine lv_aload_n hx hb dL_law_169 rfl (lv_at hl 1 rfl) ?_
        refine lv_aload_n hx hb dL_law_170 rfl (lv_at hl 0 rfl) ?_
        refine lv_iload_n hx hb dL_law_171 rfl (lv_at hl 3 rfl) ?_
        refine lv_iconst (v := 1) hx hb dL_law_172 (by decide) ?_
        refine lv_iadd hx hb dL_law_173 ?_
        refine lw_ld X hX hbl hbA hS (k := 6 * j + 1) (nI_add (6 * j) 1) (by omega) hL dL_law_174 ?_
        refine lv_aload_n hx hb dL_law_175 rfl (lv_at hl 0 rfl) ?_
        refine lv_iload_n hx hb dL_law_176 rfl (lv_at hl 3 rfl) ?_
        refine lv_iconst (v := 2) hx hb dL_law_177 (by decide) ?_
        refine lv_iadd hx hb dL_law_178 ?_
        refine lw_ld X hX hbl hbA hS (k := 6 * j + 2) (nI_add (6 * j) 2) (by omega) hL dL_law_179 ?_
        obtain ⟨r1, h1, hf⟩ := ob1_some hf
        refine k_yX8_of X hK hZ hW hS hl.1 h1 mlRL_18 ⟨Nat.le_of_ble_eq_true rfl, Nat.le_of_ble_eq_true rfl⟩ ⟨by show 200 + 122 * j ≤ 600000; omega, by show 8000 + 1098 * j ≤ 7302250; omega⟩ (Nat.le_of_ble_eq_true rfl) dL_law_180 (fun H locs hW hS => ?_)
        refine lv_aload_n hx hb dL_law_183 rfl (lv_at hl 2 rfl) ?_
        refine lv_aload_n hx hb dL_law_184 rfl (lv_at hl 0 rfl) ?_
        refine lv_iload_n hx hb dL_law_185 rfl (lv_at hl 3 rfl) ?_
        refine lv_iconst (v := 1) hx hb dL_law_186 (by decide) ?_
        refine lv_iadd hx hb dL_law_187 ?_
        refine lw_ld X hX hbl hbA hS (k := 6 * j + 1) (nI_add (6 * j) 1) (by omega) hL dL_law_188 ?_
        refine lv_aload_n hx hb dL_law_189 rfl (lv_at hl 0 rfl) ?_
        refine lv_iload_n hx hb dL_law_190 rfl (lv_at hl 3 rfl) ?_
        refine lv_iconst (v := 2) hx hb dL_law_191 (by decide) ?_
        refine lv_iadd hx hb dL_law_192 ?_
        refine lw_ld X hX hbl hbA hS (k := 6 * j + 2) (nI_add (6 * j) 2) (by omega) hL dL_law_193 ?_
        obtain ⟨r2, h2, hf⟩ := ob1_some hf
        refine k_yX9_of X hK hZ hW hS hl.1 h2 mlRL_21 ⟨Nat.le_of_ble_eq_true rfl, Nat.le_of_ble_eq_true rfl⟩ ⟨by show 200 + 122 * j ≤ 600000; omega, by show 8000 + 1098 * j ≤ 7302250; omega⟩ (Nat.le_of_ble_eq_true rfl) dL_law_194 (fun H locs hW hS => ?_)
        obtain ⟨hre, hf⟩ := gd_some hf
        refine lv_icmp_eq (tgt := 802) hx hb dL_law_197 (by decide) (fun _ => ?_) (fun cn => absurd hre cn)
        obtain rfl := sp1 hf
        exact nxt (M, N) ad _ _ ls (200 + 122 * j) (8000 + 1098 * j) (by omega) (by omega) h2f hW hS hl
      rw [if_neg c1] at h1
      by_cases c2 : xs (6 * j) &&& 31 = 2
      · rw [if_pos c2] at h1
        have hf := h1
        refine lv_tableIn (tgt := 202) hx hb dL_law_33 (by rw [c2]; decide) (by rw [c2]; decide) (by rw [c2]; rfl) (by decide) ?_
        refine lv_aload_n hx hb dL_law_202 rfl (lv_at hl 1 rfl) ?_
        refine lv_aload_n hx hb dL_law_203 rfl (lv_at hl 0 rfl) ?_
        refine lv_iload_n hx hb dL_law_204 rfl (lv_at hl 3 rfl) ?_
        refine lv_iconst (v := 1) hx hb dL_law_205 (by decide) ?_
        refine lv_iadd hx hb dL_law_206 ?_
        refine lw_ld X hX hbl hbA hS (k := 6 * j + 1) (nI_add (6 * j) 1) (by omega) hL dL_law_207 ?_
        refine lv_aload_n hx hb dL_law_208 rfl (lv_at hl 0 rfl) ?_
        refine lv_iload_n hx hb dL_law_209 rfl (lv_at hl 3 rfl) ?_
        refine lv_iconst (v := 2) hx hb dL_law_210 (by decide) ?_
        refine lv_iadd hx hb dL_law_211 ?_
        refine lw_ld X hX hbl hbA hS (k := 6 * j + 2) (nI_add (6 * j) 2) (by omega) hL dL_law_212 ?_
        obtain ⟨r1, h1, hf⟩ := ob1_some hf
        refine k_yX8_item X hK hZ hW hS hl.1 h1 mlRL_22 ⟨Nat.le_of_ble_eq_true rfl, Nat.le_of_ble_eq_true rfl⟩ ⟨by show 200 + 122 * j ≤ 600000; omega, by show 8000 + 1098 * j ≤ 7302250; omega⟩ (Nat.le_of_ble_eq_true rfl) dL_law_213 (fun H locs hW hS => ?_)
        refine lv_aload_n hx hb dL_law_216 rfl (lv_at hl 2 rfl) ?_
        refine lv_aload_n hx hb dL_law_217 rfl (lv_at hl 0 rfl) ?_
        refine lv_iload_n hx hb dL_law_218 rfl (lv_at hl 3 rfl) ?_
        refine lv_iconst (v := 1) hx hb dL_law_219 (by decide) ?_
        refine lv_iadd hx hb dL_law_220 ?_
        refine lw_ld X hX hbl hbA hS (k := 6 * j + 1) (nI_add (6 * j) 1) (by omega) hL dL_law_221 ?_
        refine lv_aload_n hx hb dL_law_222 rfl (lv_at hl 0 rfl) ?_
        refine lv_iload_n hx hb dL_law_223 rfl (lv_at hl 3 rfl) ?_
        refine lv_iconst (v := 2) hx hb dL_law_224 (by decide) ?_
        refine lv_iadd hx hb dL_law_225 ?_
        refine lw_ld X hX hbl hbA hS (k := 6 * j + 2) (nI_add (6 * j) 2) (by omega) hL dL_law_226 ?_
        obtain ⟨r2, h2, hf⟩ := ob1_some hf
        refine k_yX9_item X hK hZ hW hS hl.1 h2 mlRL_25 ⟨Nat.le_of_ble_eq_true rfl, Nat.le_of_ble_eq_true rfl⟩ ⟨by show 200 + 122 * j ≤ 600000; omega, by show 8000 + 1098 * j ≤ 7302250; omega⟩ (Nat.le_of_ble_eq_true rfl) dL_law_227 (fun H locs hW hS => ?_)
        obtain ⟨hre, hf⟩ := gd_some hf
        refine lv_icmp_eq (tgt := 802) hx hb dL_law_230 (by decide) (fun _ => ?_) (fun cn => absurd hre cn)
        obtain rfl := sp1 hf
        exact nxt (M, N) ad _ _ ls (200 + 122 * j) (8000 + 1098 * j) (by omega) (by omega) h2f hW hS hl
      rw [if_neg c2] at h1
      by_cases c3 : xs (6 * j) &&& 31 = 3
      · rw [if_pos c3] at h1
        have hf := h1
        refine lv_tableIn (tgt := 235) hx hb dL_law_33 (by rw [c3]; decide) (by rw [c3]; decide) (by rw [c3]; rfl) (by decide) ?_
        refine lv_aload_n hx hb dL_law_235 rfl (lv_at hl 1 rfl) ?_
        refine lv_aload_n hx hb dL_law_236 rfl (lv_at hl 0 rfl) ?_
        refine lv_iload_n hx hb dL_law_237 rfl (lv_at hl 3 rfl) ?_
        refine lv_iconst (v := 1) hx hb dL_law_238 (by decide) ?_
        refine lv_iadd hx hb dL_law_239 ?_
        refine lw_ld X hX hbl hbA hS (k := 6 * j + 1) (nI_add (6 * j) 1) (by omega) hL dL_law_240 ?_
        obtain ⟨r1, M1, h1, hf⟩ := ob2_some hf
        refine k_yX8_weigh X hK hZ hW hS hl.1 h1 mlRL_26 ⟨Nat.le_of_ble_eq_true rfl, Nat.le_of_ble_eq_true rfl⟩ ⟨by show 200 + 122 * j ≤ 600000; omega, by show 8000 + 1098 * j ≤ 7302250; omega⟩ (Nat.le_of_ble_eq_true rfl) dL_law_241 (fun H locs hW hS => ?_)
        refine lv_aload_n hx hb dL_law_244 rfl (lv_at hl 2 rfl) ?_
        refine lv_aload_n hx hb dL_law_245 rfl (lv_at hl 0 rfl) ?_
        refine lv_iload_n hx hb dL_law_246 rfl (lv_at hl 3 rfl) ?_
        refine lv_iconst (v := 1) hx hb dL_law_247 (by decide) ?_
        refine lv_iadd hx hb dL_law_248 ?_
        refine lw_ld X hX hbl hbA hS (k := 6 * j + 1) (nI_add (6 * j) 1) (by omega) hL dL_law_249 ?_
        obtain ⟨r2, N1, h2, hf⟩ := ob2_some hf
        refine k_yX9_weigh X hK hZ hW hS hl.1 h2 mlRL_30 ⟨Nat.le_of_ble_eq_true rfl, Nat.le_of_ble_eq_true rfl⟩ ⟨by show 200 + 122 * j ≤ 600000; omega, by show 8000 + 1098 * j ≤ 7302250; omega⟩ (Nat.le_of_ble_eq_true rfl) dL_law_250 (fun H locs hW hS => ?_)
        obtain ⟨hre, hf⟩ := gd_some hf
        refine lv_icmp_eq (tgt := 802) hx hb dL_law_253 (by decide) (fun _ => ?_) (fun cn => absurd hre cn)
        obtain rfl := sp1 hf
        exact nxt (M1, N1) ad _ _ ls (200 + 122 * j) (8000 + 1098 * j) (by omega) (by omega) h2f hW hS hl
      rw [if_neg c3] at h1
      by_cases c4 : xs (6 * j) &&& 31 = 4
      · rw [if_pos c4] at h1
        have hf := h1
        refine lv_tableIn (tgt := 258) hx hb dL_law_33 (by rw [c4]; decide) (by rw [c4]; decide) (by rw [c4]; rfl) (by decide) ?_
        refine lv_aload_n hx hb dL_law_258 rfl (lv_at hl 1 rfl) ?_
        refine lv_aload_n hx hb dL_law_259 rfl (lv_at hl 0 rfl) ?_
        refine lv_iload_n hx hb dL_law_260 rfl (lv_at hl 3 rfl) ?_
        refine lv_iconst (v := 1) hx hb dL_law_261 (by decide) ?_
        refine lv_iadd hx hb dL_law_262 ?_
        refine lw_ld X hX hbl hbA hS (k := 6 * j + 1) (nI_add (6 * j) 1) (by omega) hL dL_law_263 ?_
        obtain ⟨r1, h1, hf⟩ := ob1_some hf
        refine k_yX8_trace X hK hZ hW hS hl.1 h1 mlRL_31 ⟨Nat.le_of_ble_eq_true rfl, Nat.le_of_ble_eq_true rfl⟩ ⟨by show 200 + 122 * j ≤ 600000; omega, by show 8000 + 1098 * j ≤ 7302250; omega⟩ (Nat.le_of_ble_eq_true rfl) dL_law_264 (fun H locs hW hS => ?_)
        refine lv_aload_n hx hb dL_law_267 rfl (lv_at hl 2 rfl) ?_
        refine lv_aload_n hx hb dL_law_268 rfl (lv_at hl 0 rfl) ?_
        refine lv_iload_n hx hb dL_law_269 rfl (lv_at hl 3 rfl) ?_
        refine lv_iconst (v := 1) hx hb dL_law_270 (by decide) ?_
        refine lv_iadd hx hb dL_law_271 ?_
        refine lw_ld X hX hbl hbA hS (k := 6 * j + 1) (nI_add (6 * j) 1) (by omega) hL dL_law_272 ?_
        obtain ⟨r2, h2, hf⟩ := ob1_some hf
        refine k_yX9_trace X hK hZ hW hS hl.1 h2 mlRL_34 ⟨Nat.le_of_ble_eq_true rfl, Nat.le_of_ble_eq_true rfl⟩ ⟨by show 200 + 122 * j ≤ 600000; omega, by show 8000 + 1098 * j ≤ 7302250; omega⟩ (Nat.le_of_ble_eq_true rfl) dL_law_273 (fun H locs hW hS => ?_)
        obtain ⟨hre, hf⟩ := gd_some hf
        refine lv_icmp_eq (tgt := 802) hx hb dL_law_276 (by decide) (fun _ => ?_) (fun cn => absurd hre cn)
        obtain rfl := sp1 hf
        exact nxt (M, N) ad _ _ ls (200 + 122 * j) (8000 + 1098 * j) (by omega) (by omega) h2f hW hS hl
      rw [if_neg c4] at h1
      by_cases c5 : xs (6 * j) &&& 31 = 5
      · rw [if_pos c5] at h1
        have hf := h1
        refine lv_tableIn (tgt := 281) hx hb dL_law_33 (by rw [c5]; decide) (by rw [c5]; decide) (by rw [c5]; rfl) (by decide) ?_
        refine lv_aload_n hx hb dL_law_281 rfl (lv_at hl 1 rfl) ?_
        refine lv_aload_n hx hb dL_law_282 rfl (lv_at hl 0 rfl) ?_
        refine lv_iload_n hx hb dL_law_283 rfl (lv_at hl 3 rfl) ?_
        refine lv_iconst (v := 1) hx hb dL_law_284 (by decide) ?_
        refine lv_iadd hx hb dL_law_285 ?_
        refine lw_ld X hX hbl hbA hS (k := 6 * j + 1) (nI_add (6 * j) 1) (by omega) hL dL_law_286 ?_
        refine lv_aload_n hx hb dL_law_287 rfl (lv_at hl 0 rfl) ?_
        refine lv_iload_n hx hb dL_law_288 rfl (lv_at hl 3 rfl) ?_
        refine lv_iconst (v := 2) hx hb dL_law_289 (by decide) ?_
        refine lv_iadd hx hb dL_law_290 ?_
        refine lw_ld X hX hbl hbA hS (k := 6 * j + 2) (nI_add (6 * j) 2) (by omega) hL dL_law_291 ?_
        refine lv_aload_n hx hb dL_law_292 rfl (lv_at hl 0 rfl) ?_
        refine lv_iload_n hx hb dL_law_293 rfl (lv_at hl 3 rfl) ?_
        refine lv_iconst (v := 3) hx hb dL_law_294 (by decide) ?_
        refine lv_iadd hx hb dL_law_295 ?_
        refine lw_ld X hX hbl hbA hS (k := 6 * j + 3) (nI_add (6 * j) 3) (by omega) hL dL_law_296 ?_
        refine lv_aload_n hx hb dL_law_297 rfl (lv_at hl 0 rfl) ?_
        refine lv_iload_n hx hb dL_law_298 rfl (lv_at hl 3 rfl) ?_
        refine lv_iconst (v := 4) hx hb dL_law_299 (by decide) ?_
        refine lv_iadd hx hb dL_law_300 ?_
        refine lw_ld X hX hbl hbA hS (k := 6 * j + 4) (nI_add (6 * j) 4) (by omega) hL dL_law_301 ?_
        refine lv_aload_n hx hb dL_law_302 rfl (lv_at hl 0 rfl) ?_
        refine lv_iload_n hx hb dL_law_303 rfl (lv_at hl 3 rfl) ?_
        refine lv_iconst (v := 5) hx hb dL_law_304 (by decide) ?_
        refine lv_iadd hx hb dL_law_305 ?_
        refine lw_ld X hX hbl hbA hS (k := 6 * j + 5) (nI_add (6 * j) 5) (by omega) hL dL_law_306 ?_
        obtain ⟨r1, M1, h1, hf⟩ := ob2_some hf
        refine k_yX8_act X hK hZ hW hS hl.1 h1 mlRL_35 ⟨Nat.le_of_ble_eq_true rfl, Nat.le_of_ble_eq_true rfl⟩ ⟨by show 200 + 122 * j ≤ 600000; omega, by show 8000 + 1098 * j ≤ 7302250; omega⟩ (Nat.le_of_ble_eq_true rfl) dL_law_307 (fun H locs hW hS => ?_)
        refine lv_aload_n hx hb dL_law_310 rfl (lv_at hl 2 rfl) ?_
        refine lv_aload_n hx hb dL_law_311 rfl (lv_at hl 0 rfl) ?_
        refine lv_iload_n hx hb dL_law_312 rfl (lv_at hl 3 rfl) ?_
        refine lv_iconst (v := 1) hx hb dL_law_313 (by decide) ?_
        refine lv_iadd hx hb dL_law_314 ?_
        refine lw_ld X hX hbl hbA hS (k := 6 * j + 1) (nI_add (6 * j) 1) (by omega) hL dL_law_315 ?_
        refine lv_aload_n hx hb dL_law_316 rfl (lv_at hl 0 rfl) ?_
        refine lv_iload_n hx hb dL_law_317 rfl (lv_at hl 3 rfl) ?_
        refine lv_iconst (v := 2) hx hb dL_law_318 (by decide) ?_
        refine lv_iadd hx hb dL_law_319 ?_
        refine lw_ld X hX hbl hbA hS (k := 6 * j + 2) (nI_add (6 * j) 2) (by omega) hL dL_law_320 ?_
        refine lv_aload_n hx hb dL_law_321 rfl (lv_at hl 0 rfl) ?_
        refine lv_iload_n hx hb dL_law_322 rfl (lv_at hl 3 rfl) ?_
        refine lv_iconst (v := 3) hx hb dL_law_323 (by decide) ?_
        refine lv_iadd hx hb dL_law_324 ?_
        refine lw_ld X hX hbl hbA hS (k := 6 * j + 3) (nI_add (6 * j) 3) (by omega) hL dL_law_325 ?_
        refine lv_aload_n hx hb dL_law_326 rfl (lv_at hl 0 rfl) ?_
        refine lv_iload_n hx hb dL_law_327 rfl (lv_at hl 3 rfl) ?_
        refine lv_iconst (v := 4) hx hb dL_law_328 (by decide) ?_
        refine lv_iadd hx hb dL_law_329 ?_
        refine lw_ld X hX hbl hbA hS (k := 6 * j + 4) (nI_add (6 * j) 4) (by omega) hL dL_law_330 ?_
        refine lv_aload_n hx hb dL_law_331 rfl (lv_at hl 0 rfl) ?_
        refine lv_iload_n hx hb dL_law_332 rfl (lv_at hl 3 rfl) ?_
        refine lv_iconst (v := 5) hx hb dL_law_333 (by decide) ?_
        refine lv_iadd hx hb dL_law_334 ?_
        refine lw_ld X hX hbl hbA hS (k := 6 * j + 5) (nI_add (6 * j) 5) (by omega) hL dL_law_335 ?_
        obtain ⟨r2, N1, h2, hf⟩ := ob2_some hf
        refine k_yX9_act X hK hZ hW hS hl.1 h2 mlRL_39 ⟨Nat.le_of_ble_eq_true rfl, Nat.le_of_ble_eq_true rfl⟩ ⟨by show 200 + 122 * j ≤ 600000; omega, by show 8000 + 1098 * j ≤ 7302250; omega⟩ (Nat.le_of_ble_eq_true rfl) dL_law_336 (fun H locs hW hS => ?_)
        obtain ⟨hre, hf⟩ := gd_some hf
        refine lv_icmp_eq (tgt := 802) hx hb dL_law_339 (by decide) (fun _ => ?_) (fun cn => absurd hre cn)
        obtain rfl := sp1 hf
        exact nxt (M1, N1) ad _ _ ls (200 + 122 * j) (8000 + 1098 * j) (by omega) (by omega) h2f hW hS hl
      rw [if_neg c5] at h1
      by_cases c6 : xs (6 * j) &&& 31 = 6
      · rw [if_pos c6] at h1
        have hf := h1
        refine lv_tableIn (tgt := 344) hx hb dL_law_33 (by rw [c6]; decide) (by rw [c6]; decide) (by rw [c6]; rfl) (by decide) ?_
        refine lv_aload_n hx hb dL_law_344 rfl (lv_at hl 1 rfl) ?_
        refine lv_aload_n hx hb dL_law_345 rfl (lv_at hl 0 rfl) ?_
        refine lv_iload_n hx hb dL_law_346 rfl (lv_at hl 3 rfl) ?_
        refine lv_iconst (v := 1) hx hb dL_law_347 (by decide) ?_
        refine lv_iadd hx hb dL_law_348 ?_
        refine lw_ld X hX hbl hbA hS (k := 6 * j + 1) (nI_add (6 * j) 1) (by omega) hL dL_law_349 ?_
        obtain ⟨r1, M1, h1, hf⟩ := ob2_some hf
        refine k_yX8_wipe X hK hZ hW hS hl.1 h1 mlRL_40 ⟨Nat.le_of_ble_eq_true rfl, Nat.le_of_ble_eq_true rfl⟩ ⟨by show 200 + 122 * j ≤ 600000; omega, by show 8000 + 1098 * j ≤ 7302250; omega⟩ (Nat.le_of_ble_eq_true rfl) dL_law_350 (fun H locs hW hS => ?_)
        refine lv_aload_n hx hb dL_law_353 rfl (lv_at hl 2 rfl) ?_
        refine lv_aload_n hx hb dL_law_354 rfl (lv_at hl 0 rfl) ?_
        refine lv_iload_n hx hb dL_law_355 rfl (lv_at hl 3 rfl) ?_
        refine lv_iconst (v := 1) hx hb dL_law_356 (by decide) ?_
        refine lv_iadd hx hb dL_law_357 ?_
        refine lw_ld X hX hbl hbA hS (k := 6 * j + 1) (nI_add (6 * j) 1) (by omega) hL dL_law_358 ?_
        obtain ⟨r2, N1, h2, hf⟩ := ob2_some hf
        refine k_yX9_wipe X hK hZ hW hS hl.1 h2 mlRL_43 ⟨Nat.le_of_ble_eq_true rfl, Nat.le_of_ble_eq_true rfl⟩ ⟨by show 200 + 122 * j ≤ 600000; omega, by show 8000 + 1098 * j ≤ 7302250; omega⟩ (Nat.le_of_ble_eq_true rfl) dL_law_359 (fun H locs hW hS => ?_)
        obtain ⟨hre, hf⟩ := gd_some hf
        refine lv_icmp_eq (tgt := 802) hx hb dL_law_362 (by decide) (fun _ => ?_) (fun cn => absurd hre cn)
        obtain rfl := sp1 hf
        exact nxt (M1, N1) ad _ _ ls (200 + 122 * j) (8000 + 1098 * j) (by omega) (by omega) h2f hW hS hl
      rw [if_neg c6] at h1
      by_cases c7 : xs (6 * j) &&& 31 = 7
      · rw [if_pos c7] at h1
        have hf := h1
        refine lv_tableIn (tgt := 367) hx hb dL_law_33 (by rw [c7]; decide) (by rw [c7]; decide) (by rw [c7]; rfl) (by decide) ?_
        refine lv_aload_n hx hb dL_law_367 rfl (lv_at hl 1 rfl) ?_
        refine lv_aload_n hx hb dL_law_368 rfl (lv_at hl 0 rfl) ?_
        refine lv_iload_n hx hb dL_law_369 rfl (lv_at hl 3 rfl) ?_
        refine lv_iconst (v := 1) hx hb dL_law_370 (by decide) ?_
        refine lv_iadd hx hb dL_law_371 ?_
        refine lw_ld X hX hbl hbA hS (k := 6 * j + 1) (nI_add (6 * j) 1) (by omega) hL dL_law_372 ?_
        refine lv_aload_n hx hb dL_law_373 rfl (lv_at hl 0 rfl) ?_
        refine lv_iload_n hx hb dL_law_374 rfl (lv_at hl 3 rfl) ?_
        refine lv_iconst (v := 2) hx hb dL_law_375 (by decide) ?_
        refine lv_iadd hx hb dL_law_376 ?_
        refine lw_ld X hX hbl hbA hS (k := 6 * j + 2) (nI_add (6 * j) 2) (by omega) hL dL_law_377 ?_
        refine lv_aload_n hx hb dL_law_378 rfl (lv_at hl 0 rfl) ?_
        refine lv_iload_n hx hb dL_law_379 rfl (lv_at hl 3 rfl) ?_
        refine lv_iconst (v := 3) hx hb dL_law_380 (by decide) ?_
        refine lv_iadd hx hb dL_law_381 ?_
        refine lw_ld X hX hbl hbA hS (k := 6 * j + 3) (nI_add (6 * j) 3) (by omega) hL dL_law_382 ?_
        obtain ⟨r1, M1, h1, hf⟩ := ob2_some hf
        refine k_yX8_thread X hK hZ hW hS hl.1 h1 mlRL_44 ⟨Nat.le_of_ble_eq_true rfl, Nat.le_of_ble_eq_true rfl⟩ ⟨by show 200 + 122 * j ≤ 600000; omega, by show 8000 + 1098 * j ≤ 7302250; omega⟩ (Nat.le_of_ble_eq_true rfl) dL_law_383 (fun H locs hW hS => ?_)
        refine lv_aload_n hx hb dL_law_386 rfl (lv_at hl 2 rfl) ?_
        refine lv_aload_n hx hb dL_law_387 rfl (lv_at hl 0 rfl) ?_
        refine lv_iload_n hx hb dL_law_388 rfl (lv_at hl 3 rfl) ?_
        refine lv_iconst (v := 1) hx hb dL_law_389 (by decide) ?_
        refine lv_iadd hx hb dL_law_390 ?_
        refine lw_ld X hX hbl hbA hS (k := 6 * j + 1) (nI_add (6 * j) 1) (by omega) hL dL_law_391 ?_
        refine lv_aload_n hx hb dL_law_392 rfl (lv_at hl 0 rfl) ?_
        refine lv_iload_n hx hb dL_law_393 rfl (lv_at hl 3 rfl) ?_
        refine lv_iconst (v := 2) hx hb dL_law_394 (by decide) ?_
        refine lv_iadd hx hb dL_law_395 ?_
        refine lw_ld X hX hbl hbA hS (k := 6 * j + 2) (nI_add (6 * j) 2) (by omega) hL dL_law_396 ?_
        refine lv_aload_n hx hb dL_law_397 rfl (lv_at hl 0 rfl) ?_
        refine lv_iload_n hx hb dL_law_398 rfl (lv_at hl 3 rfl) ?_
        refine lv_iconst (v := 3) hx hb dL_law_399 (by decide) ?_
        refine lv_iadd hx hb dL_law_400 ?_
        refine lw_ld X hX hbl hbA hS (k := 6 * j + 3) (nI_add (6 * j) 3) (by omega) hL dL_law_401 ?_
        obtain ⟨r2, N1, h2, hf⟩ := ob2_some hf
        refine k_yX9_thread X hK hZ hW hS hl.1 h2 mlRL_48 ⟨Nat.le_of_ble_eq_true rfl, Nat.le_of_ble_eq_true rfl⟩ ⟨by show 200 + 122 * j ≤ 600000; omega, by show 8000 + 1098 * j ≤ 7302250; omega⟩ (Nat.le_of_ble_eq_true rfl) dL_law_402 (fun H locs hW hS => ?_)
        obtain ⟨hre, hf⟩ := gd_some hf
        refine lv_icmp_eq (tgt := 802) hx hb dL_law_405 (by decide) (fun _ => ?_) (fun cn => absurd hre cn)
        obtain rfl := sp1 hf
        exact nxt (M1, N1) ad _ _ ls (200 + 122 * j) (8000 + 1098 * j) (by omega) (by omega) h2f hW hS hl
      rw [if_neg c7] at h1
      by_cases c8 : xs (6 * j) &&& 31 = 8
      · rw [if_pos c8] at h1
        have hf := h1
        refine lv_tableIn (tgt := 410) hx hb dL_law_33 (by rw [c8]; decide) (by rw [c8]; decide) (by rw [c8]; rfl) (by decide) ?_
        refine lv_aload_n hx hb dL_law_410 rfl (lv_at hl 1 rfl) ?_
        refine lv_aload_n hx hb dL_law_411 rfl (lv_at hl 0 rfl) ?_
        refine lv_iload_n hx hb dL_law_412 rfl (lv_at hl 3 rfl) ?_
        refine lv_iconst (v := 1) hx hb dL_law_413 (by decide) ?_
        refine lv_iadd hx hb dL_law_414 ?_
        refine lw_ld X hX hbl hbA hS (k := 6 * j + 1) (nI_add (6 * j) 1) (by omega) hL dL_law_415 ?_
        refine lv_aload_n hx hb dL_law_416 rfl (lv_at hl 0 rfl) ?_
        refine lv_iload_n hx hb dL_law_417 rfl (lv_at hl 3 rfl) ?_
        refine lv_iconst (v := 2) hx hb dL_law_418 (by decide) ?_
        refine lv_iadd hx hb dL_law_419 ?_
        refine lw_ld X hX hbl hbA hS (k := 6 * j + 2) (nI_add (6 * j) 2) (by omega) hL dL_law_420 ?_
        refine lv_aload_n hx hb dL_law_421 rfl (lv_at hl 0 rfl) ?_
        refine lv_iload_n hx hb dL_law_422 rfl (lv_at hl 3 rfl) ?_
        refine lv_iconst (v := 3) hx hb dL_law_423 (by decide) ?_
        refine lv_iadd hx hb dL_law_424 ?_
        refine lw_ld X hX hbl hbA hS (k := 6 * j + 3) (nI_add (6 * j) 3) (by omega) hL dL_law_425 ?_
        obtain ⟨r1, M1, h1, hf⟩ := ob2_some hf
        refine k_yX8_set X hK hZ hW hS hl.1 h1 mlRL_49 ⟨Nat.le_of_ble_eq_true rfl, Nat.le_of_ble_eq_true rfl⟩ ⟨by show 200 + 122 * j ≤ 600000; omega, by show 8000 + 1098 * j ≤ 7302250; omega⟩ (Nat.le_of_ble_eq_true rfl) dL_law_426 (fun H locs hW hS => ?_)
        refine lv_aload_n hx hb dL_law_429 rfl (lv_at hl 2 rfl) ?_
        refine lv_aload_n hx hb dL_law_430 rfl (lv_at hl 0 rfl) ?_
        refine lv_iload_n hx hb dL_law_431 rfl (lv_at hl 3 rfl) ?_
        refine lv_iconst (v := 1) hx hb dL_law_432 (by decide) ?_
        refine lv_iadd hx hb dL_law_433 ?_
        refine lw_ld X hX hbl hbA hS (k := 6 * j + 1) (nI_add (6 * j) 1) (by omega) hL dL_law_434 ?_
        refine lv_aload_n hx hb dL_law_435 rfl (lv_at hl 0 rfl) ?_
        refine lv_iload_n hx hb dL_law_436 rfl (lv_at hl 3 rfl) ?_
        refine lv_iconst (v := 2) hx hb dL_law_437 (by decide) ?_
        refine lv_iadd hx hb dL_law_438 ?_
        refine lw_ld X hX hbl hbA hS (k := 6 * j + 2) (nI_add (6 * j) 2) (by omega) hL dL_law_439 ?_
        refine lv_aload_n hx hb dL_law_440 rfl (lv_at hl 0 rfl) ?_
        refine lv_iload_n hx hb dL_law_441 rfl (lv_at hl 3 rfl) ?_
        refine lv_iconst (v := 3) hx hb dL_law_442 (by decide) ?_
        refine lv_iadd hx hb dL_law_443 ?_
        refine lw_ld X hX hbl hbA hS (k := 6 * j + 3) (nI_add (6 * j) 3) (by omega) hL dL_law_444 ?_
        obtain ⟨r2, N1, h2, hf⟩ := ob2_some hf
        refine k_yX9_set X hK hZ hW hS hl.1 h2 mlRL_52 ⟨Nat.le_of_ble_eq_true rfl, Nat.le_of_ble_eq_true rfl⟩ ⟨by show 200 + 122 * j ≤ 600000; omega, by show 8000 + 1098 * j ≤ 7302250; omega⟩ (Nat.le_of_ble_eq_true rfl) dL_law_445 (fun H locs hW hS => ?_)
        obtain ⟨hre, hf⟩ := gd_some hf
        refine lv_icmp_eq (tgt := 802) hx hb dL_law_448 (by decide) (fun _ => ?_) (fun cn => absurd hre cn)
        obtain rfl := sp1 hf
        exact nxt (M1, N1) ad _ _ ls (200 + 122 * j) (8000 + 1098 * j) (by omega) (by omega) h2f hW hS hl
      rw [if_neg c8] at h1
      by_cases c9 : xs (6 * j) &&& 31 = 9
      · rw [if_pos c9] at h1
        have hf := h1
        refine lv_tableIn (tgt := 453) hx hb dL_law_33 (by rw [c9]; decide) (by rw [c9]; decide) (by rw [c9]; rfl) (by decide) ?_
        refine lv_aload_n hx hb dL_law_453 rfl (lv_at hl 1 rfl) ?_
        refine lv_aload_n hx hb dL_law_454 rfl (lv_at hl 0 rfl) ?_
        refine lv_iload_n hx hb dL_law_455 rfl (lv_at hl 3 rfl) ?_
        refine lv_iconst (v := 1) hx hb dL_law_456 (by decide) ?_
        refine lv_iadd hx hb dL_law_457 ?_
        refine lw_ld X hX hbl hbA hS (k := 6 * j + 1) (nI_add (6 * j) 1) (by omega) hL dL_law_458 ?_
        refine lv_aload_n hx hb dL_law_459 rfl (lv_at hl 0 rfl) ?_
        refine lv_iload_n hx hb dL_law_460 rfl (lv_at hl 3 rfl) ?_
        refine lv_iconst (v := 2) hx hb dL_law_461 (by decide) ?_
        refine lv_iadd hx hb dL_law_462 ?_
        refine lw_ld X hX hbl hbA hS (k := 6 * j + 2) (nI_add (6 * j) 2) (by omega) hL dL_law_463 ?_
        refine lv_aload_n hx hb dL_law_464 rfl (lv_at hl 0 rfl) ?_
        refine lv_iload_n hx hb dL_law_465 rfl (lv_at hl 3 rfl) ?_
        refine lv_iconst (v := 3) hx hb dL_law_466 (by decide) ?_
        refine lv_iadd hx hb dL_law_467 ?_
        refine lw_ld X hX hbl hbA hS (k := 6 * j + 3) (nI_add (6 * j) 3) (by omega) hL dL_law_468 ?_
        obtain ⟨r1, M1, h1, hf⟩ := ob2_some hf
        refine k_yX8_give X hK hZ hW hS hl.1 h1 mlRL_53 ⟨Nat.le_of_ble_eq_true rfl, Nat.le_of_ble_eq_true rfl⟩ ⟨by show 200 + 122 * j ≤ 600000; omega, by show 8000 + 1098 * j ≤ 7302250; omega⟩ (Nat.le_of_ble_eq_true rfl) dL_law_469 (fun H locs hW hS => ?_)
        refine lv_aload_n hx hb dL_law_472 rfl (lv_at hl 2 rfl) ?_
        refine lv_aload_n hx hb dL_law_473 rfl (lv_at hl 0 rfl) ?_
        refine lv_iload_n hx hb dL_law_474 rfl (lv_at hl 3 rfl) ?_
        refine lv_iconst (v := 1) hx hb dL_law_475 (by decide) ?_
        refine lv_iadd hx hb dL_law_476 ?_
        refine lw_ld X hX hbl hbA hS (k := 6 * j + 1) (nI_add (6 * j) 1) (by omega) hL dL_law_477 ?_
        refine lv_aload_n hx hb dL_law_478 rfl (lv_at hl 0 rfl) ?_
        refine lv_iload_n hx hb dL_law_479 rfl (lv_at hl 3 rfl) ?_
        refine lv_iconst (v := 2) hx hb dL_law_480 (by decide) ?_
        refine lv_iadd hx hb dL_law_481 ?_
        refine lw_ld X hX hbl hbA hS (k := 6 * j + 2) (nI_add (6 * j) 2) (by omega) hL dL_law_482 ?_
        refine lv_aload_n hx hb dL_law_483 rfl (lv_at hl 0 rfl) ?_
        refine lv_iload_n hx hb dL_law_484 rfl (lv_at hl 3 rfl) ?_
        refine lv_iconst (v := 3) hx hb dL_law_485 (by decide) ?_
        refine lv_iadd hx hb dL_law_486 ?_
        refine lw_ld X hX hbl hbA hS (k := 6 * j + 3) (nI_add (6 * j) 3) (by omega) hL dL_law_487 ?_
        obtain ⟨r2, N1, h2, hf⟩ := ob2_some hf
        refine k_yX9_give X hK hZ hW hS hl.1 h2 mlRL_56 ⟨Nat.le_of_ble_eq_true rfl, Nat.le_of_ble_eq_true rfl⟩ ⟨by show 200 + 122 * j ≤ 600000; omega, by show 8000 + 1098 * j ≤ 7302250; omega⟩ (Nat.le_of_ble_eq_true rfl) dL_law_488 (fun H locs hW hS => ?_)
        obtain ⟨hre, hf⟩ := gd_some hf
        refine lv_icmp_eq (tgt := 802) hx hb dL_law_491 (by decide) (fun _ => ?_) (fun cn => absurd hre cn)
        obtain rfl := sp1 hf
        exact nxt (M1, N1) ad _ _ ls (200 + 122 * j) (8000 + 1098 * j) (by omega) (by omega) h2f hW hS hl
      rw [if_neg c9] at h1
      by_cases c10 : xs (6 * j) &&& 31 = 10
      · rw [if_pos c10] at h1
        have hf := h1
        refine lv_tableIn (tgt := 496) hx hb dL_law_33 (by rw [c10]; decide) (by rw [c10]; decide) (by rw [c10]; rfl) (by decide) ?_
        refine lv_aload_n hx hb dL_law_496 rfl (lv_at hl 1 rfl) ?_
        refine lv_aload_n hx hb dL_law_497 rfl (lv_at hl 0 rfl) ?_
        refine lv_iload_n hx hb dL_law_498 rfl (lv_at hl 3 rfl) ?_
        refine lv_iconst (v := 1) hx hb dL_law_499 (by decide) ?_
        refine lv_iadd hx hb dL_law_500 ?_
        refine lw_ld X hX hbl hbA hS (k := 6 * j + 1) (nI_add (6 * j) 1) (by omega) hL dL_law_501 ?_
        obtain ⟨r1, M1, h1, hf⟩ := ob2_some hf
        refine k_yX8_start X hK hZ hW hS hl.1 h1 mlRL_57 ⟨Nat.le_of_ble_eq_true rfl, Nat.le_of_ble_eq_true rfl⟩ ⟨by show 200 + 122 * j ≤ 600000; omega, by show 8000 + 1098 * j ≤ 7302250; omega⟩ (Nat.le_of_ble_eq_true rfl) dL_law_502 (fun H locs hW hS => ?_)
        refine lv_aload_n hx hb dL_law_505 rfl (lv_at hl 2 rfl) ?_
        refine lv_aload_n hx hb dL_law_506 rfl (lv_at hl 0 rfl) ?_
        refine lv_iload_n hx hb dL_law_507 rfl (lv_at hl 3 rfl) ?_
        refine lv_iconst (v := 1) hx hb dL_law_508 (by decide) ?_
        refine lv_iadd hx hb dL_law_509 ?_
        refine lw_ld X hX hbl hbA hS (k := 6 * j + 1) (nI_add (6 * j) 1) (by omega) hL dL_law_510 ?_
        obtain ⟨r2, N1, h2, hf⟩ := ob2_some hf
        refine k_yX9_start X hK hZ hW hS hl.1 h2 mlRL_60 ⟨Nat.le_of_ble_eq_true rfl, Nat.le_of_ble_eq_true rfl⟩ ⟨by show 200 + 122 * j ≤ 600000; omega, by show 8000 + 1098 * j ≤ 7302250; omega⟩ (Nat.le_of_ble_eq_true rfl) dL_law_511 (fun H locs hW hS => ?_)
        obtain ⟨hre, hf⟩ := gd_some hf
        refine lv_icmp_eq (tgt := 802) hx hb dL_law_514 (by decide) (fun _ => ?_) (fun cn => absurd hre cn)
        obtain rfl := sp1 hf
        exact nxt (M1, N1) ad _ _ ls (200 + 122 * j) (8000 + 1098 * j) (by omega) (by omega) h2f hW hS hl
      rw [if_neg c10] at h1
      by_cases c11 : xs (6 * j) &&& 31 = 11
      · rw [if_pos c11] at h1
        have hf := h1
        refine lv_tableIn (tgt := 519) hx hb dL_law_33 (by rw [c11]; decide) (by rw [c11]; decide) (by rw [c11]; rfl) (by decide) ?_
        refine lv_aload_n hx hb dL_law_519 rfl (lv_at hl 1 rfl) ?_
        refine lv_aload_n hx hb dL_law_520 rfl (lv_at hl 0 rfl) ?_
        refine lv_iload_n hx hb dL_law_521 rfl (lv_at hl 3 rfl) ?_
        refine lv_iconst (v := 1) hx hb dL_law_522 (by decide) ?_
        refine lv_iadd hx hb dL_law_523 ?_
        refine lw_ld X hX hbl hbA hS (k := 6 * j + 1) (nI_add (6 * j) 1) (by omega) hL dL_law_524 ?_
        obtain ⟨r1, M1, h1, hf⟩ := ob2_some hf
        refine k_yX8_broken X hK hZ hW hS hl.1 h1 mlRL_61 ⟨Nat.le_of_ble_eq_true rfl, Nat.le_of_ble_eq_true rfl⟩ ⟨by show 200 + 122 * j ≤ 600000; omega, by show 8000 + 1098 * j ≤ 7302250; omega⟩ (Nat.le_of_ble_eq_true rfl) dL_law_525 (fun H locs hW hS => ?_)
        refine lv_aload_n hx hb dL_law_528 rfl (lv_at hl 2 rfl) ?_
        refine lv_aload_n hx hb dL_law_529 rfl (lv_at hl 0 rfl) ?_
        refine lv_iload_n hx hb dL_law_530 rfl (lv_at hl 3 rfl) ?_
        refine lv_iconst (v := 1) hx hb dL_law_531 (by decide) ?_
        refine lv_iadd hx hb dL_law_532 ?_
        refine lw_ld X hX hbl hbA hS (k := 6 * j + 1) (nI_add (6 * j) 1) (by omega) hL dL_law_533 ?_
        obtain ⟨r2, N1, h2, hf⟩ := ob2_some hf
        refine k_yX9_broken X hK hZ hW hS hl.1 h2 mlRL_64 ⟨Nat.le_of_ble_eq_true rfl, Nat.le_of_ble_eq_true rfl⟩ ⟨by show 200 + 122 * j ≤ 600000; omega, by show 8000 + 1098 * j ≤ 7302250; omega⟩ (Nat.le_of_ble_eq_true rfl) dL_law_534 (fun H locs hW hS => ?_)
        obtain ⟨hre, hf⟩ := gd_some hf
        refine lv_icmp_eq (tgt := 802) hx hb dL_law_537 (by decide) (fun _ => ?_) (fun cn => absurd hre cn)
        obtain rfl := sp1 hf
        exact nxt (M1, N1) ad _ _ ls (200 + 122 * j) (8000 + 1098 * j) (by omega) (by omega) h2f hW hS hl
      rw [if_neg c11] at h1
      by_cases c12 : xs (6 * j) &&& 31 = 12
      · rw [if_pos c12] at h1
        have hf := h1
        refine lv_tableIn (tgt := 542) hx hb dL_law_33 (by rw [c12]; decide) (by rw [c12]; decide) (by rw [c12]; rfl) (by decide) ?_
        refine lv_aload_n hx hb dL_law_542 rfl (lv_at hl 1 rfl) ?_
        refine lv_aload_n hx hb dL_law_543 rfl (lv_at hl 0 rfl) ?_
        refine lv_iload_n hx hb dL_law_544 rfl (lv_at hl 3 rfl) ?_
        refine lv_iconst (v := 1) hx hb dL_law_545 (by decide) ?_
        refine lv_iadd hx hb dL_law_546 ?_
        refine lw_ld X hX hbl hbA hS (k := 6 * j + 1) (nI_add (6 * j) 1) (by omega) hL dL_law_547 ?_
        obtain ⟨r1, M1, h1, hf⟩ := ob2_some hf
        refine k_yX8_rule X hK hZ hW hS hl.1 h1 mlRL_65 ⟨Nat.le_of_ble_eq_true rfl, Nat.le_of_ble_eq_true rfl⟩ ⟨by show 200 + 122 * j ≤ 600000; omega, by show 8000 + 1098 * j ≤ 7302250; omega⟩ (Nat.le_of_ble_eq_true rfl) dL_law_548 (fun H locs hW hS => ?_)
        refine lv_aload_n hx hb dL_law_551 rfl (lv_at hl 2 rfl) ?_
        refine lv_aload_n hx hb dL_law_552 rfl (lv_at hl 0 rfl) ?_
        refine lv_iload_n hx hb dL_law_553 rfl (lv_at hl 3 rfl) ?_
        refine lv_iconst (v := 1) hx hb dL_law_554 (by decide) ?_
        refine lv_iadd hx hb dL_law_555 ?_
        refine lw_ld X hX hbl hbA hS (k := 6 * j + 1) (nI_add (6 * j) 1) (by omega) hL dL_law_556 ?_
        obtain ⟨r2, N1, h2, hf⟩ := ob2_some hf
        refine k_yX9_rule X hK hZ hW hS hl.1 h2 mlRL_68 ⟨Nat.le_of_ble_eq_true rfl, Nat.le_of_ble_eq_true rfl⟩ ⟨by show 200 + 122 * j ≤ 600000; omega, by show 8000 + 1098 * j ≤ 7302250; omega⟩ (Nat.le_of_ble_eq_true rfl) dL_law_557 (fun H locs hW hS => ?_)
        obtain ⟨hre, hf⟩ := gd_some hf
        refine lv_icmp_eq (tgt := 802) hx hb dL_law_560 (by decide) (fun _ => ?_) (fun cn => absurd hre cn)
        obtain rfl := sp1 hf
        exact nxt (M1, N1) ad _ _ ls (200 + 122 * j) (8000 + 1098 * j) (by omega) (by omega) h2f hW hS hl
      rw [if_neg c12] at h1
      by_cases c13 : xs (6 * j) &&& 31 = 13
      · rw [if_pos c13] at h1
        have hf := h1
        refine lv_tableIn (tgt := 565) hx hb dL_law_33 (by rw [c13]; decide) (by rw [c13]; decide) (by rw [c13]; rfl) (by decide) ?_
        refine lv_aload_n hx hb dL_law_565 rfl (lv_at hl 1 rfl) ?_
        refine lv_aload_n hx hb dL_law_566 rfl (lv_at hl 0 rfl) ?_
        refine lv_iload_n hx hb dL_law_567 rfl (lv_at hl 3 rfl) ?_
        refine lv_iconst (v := 1) hx hb dL_law_568 (by decide) ?_
        refine lv_iadd hx hb dL_law_569 ?_
        refine lw_ld X hX hbl hbA hS (k := 6 * j + 1) (nI_add (6 * j) 1) (by omega) hL dL_law_570 ?_
        obtain ⟨r1, M1, h1, hf⟩ := ob2_some hf
        refine k_yX8_order X hK hZ hW hS hl.1 h1 mlRL_69 ⟨Nat.le_of_ble_eq_true rfl, Nat.le_of_ble_eq_true rfl⟩ ⟨by show 200 + 122 * j ≤ 600000; omega, by show 8000 + 1098 * j ≤ 7302250; omega⟩ (Nat.le_of_ble_eq_true rfl) dL_law_571 (fun H locs hW hS => ?_)
        refine lv_aload_n hx hb dL_law_574 rfl (lv_at hl 2 rfl) ?_
        refine lv_aload_n hx hb dL_law_575 rfl (lv_at hl 0 rfl) ?_
        refine lv_iload_n hx hb dL_law_576 rfl (lv_at hl 3 rfl) ?_
        refine lv_iconst (v := 1) hx hb dL_law_577 (by decide) ?_
        refine lv_iadd hx hb dL_law_578 ?_
        refine lw_ld X hX hbl hbA hS (k := 6 * j + 1) (nI_add (6 * j) 1) (by omega) hL dL_law_579 ?_
        obtain ⟨r2, N1, h2, hf⟩ := ob2_some hf
        refine k_yX9_order X hK hZ hW hS hl.1 h2 mlRL_72 ⟨Nat.le_of_ble_eq_true rfl, Nat.le_of_ble_eq_true rfl⟩ ⟨by show 200 + 122 * j ≤ 600000; omega, by show 8000 + 1098 * j ≤ 7302250; omega⟩ (Nat.le_of_ble_eq_true rfl) dL_law_580 (fun H locs hW hS => ?_)
        obtain ⟨hre, hf⟩ := gd_some hf
        refine lv_icmp_eq (tgt := 802) hx hb dL_law_583 (by decide) (fun _ => ?_) (fun cn => absurd hre cn)
        obtain rfl := sp1 hf
        exact nxt (M1, N1) ad _ _ ls (200 + 122 * j) (8000 + 1098 * j) (by omega) (by omega) h2f hW hS hl
      rw [if_neg c13] at h1
      by_cases c14 : xs (6 * j) &&& 31 = 14
      · rw [if_pos c14] at h1
        have hf := h1
        refine lv_tableIn (tgt := 588) hx hb dL_law_33 (by rw [c14]; decide) (by rw [c14]; decide) (by rw [c14]; rfl) (by decide) ?_
        refine lv_aload_n hx hb dL_law_588 rfl (lv_at hl 1 rfl) ?_
        obtain ⟨r1, M1, h1, hf⟩ := ob2_some hf
        refine k_yX8_turn X hK hZ hW hS hl.1 h1 mlRL_73 ⟨Nat.le_of_ble_eq_true rfl, Nat.le_of_ble_eq_true rfl⟩ ⟨by show 200 + 122 * j + 2 ≤ 600000; omega, by show 8000 + 1098 * j + 18 ≤ 7302250; omega⟩ (Nat.le_of_ble_eq_true rfl) dL_law_589 (fun ad1 H locs hE hW hS => ?_)
        have hl : lv_has ls 4 [(0, .ref b), (1, .ref (ad1 0 0)), (2, .ref (ad1 20 0)), (3, .int (nI (6 * j)))] := by rw [hE 0 0 (by decide) (by decide), hE 20 0 (by decide) (by decide)]; exact hl
        refine lv_aload_n hx hb dL_law_592 rfl (lv_at hl 2 rfl) ?_
        obtain ⟨r2, N1, h2, hf⟩ := ob2_some hf
        refine k_yX9_turn X hK hZ hW hS hl.1 h2 mlRL_77 ⟨Nat.le_of_ble_eq_true rfl, Nat.le_of_ble_eq_true rfl⟩ ⟨by show 200 + 122 * j + 2 ≤ 600000; omega, by show 8000 + 1098 * j + 18 ≤ 7302250; omega⟩ (Nat.le_of_ble_eq_true rfl) dL_law_593 (fun H locs hW hS => ?_)
        obtain ⟨hre, hf⟩ := gd_some hf
        refine lv_icmp_eq (tgt := 802) hx hb dL_law_596 (by decide) (fun _ => ?_) (fun cn => absurd hre cn)
        obtain rfl := sp1 hf
        exact nxt (M1, N1) ad1 _ _ ls (200 + 122 * j + 2) (8000 + 1098 * j + 18) (by omega) (by omega) h2f hW hS hl
      rw [if_neg c14] at h1
      by_cases c15 : xs (6 * j) &&& 31 = 15
      · rw [if_pos c15] at h1
        have hf := h1
        refine lv_tableIn (tgt := 601) hx hb dL_law_33 (by rw [c15]; decide) (by rw [c15]; decide) (by rw [c15]; rfl) (by decide) ?_
        refine lv_aload_n hx hb dL_law_601 rfl (lv_at hl 1 rfl) ?_
        refine lv_aload_n hx hb dL_law_602 rfl (lv_at hl 0 rfl) ?_
        refine lv_iload_n hx hb dL_law_603 rfl (lv_at hl 3 rfl) ?_
        refine lv_iconst (v := 1) hx hb dL_law_604 (by decide) ?_
        refine lv_iadd hx hb dL_law_605 ?_
        refine lw_ld X hX hbl hbA hS (k := 6 * j + 1) (nI_add (6 * j) 1) (by omega) hL dL_law_606 ?_
        obtain ⟨r1, M1, h1, hf⟩ := ob2_some hf
        refine k_yX8_run X hK hZ hW hS hl.1 h1 mlRL_78 ⟨Nat.le_of_ble_eq_true rfl, Nat.le_of_ble_eq_true rfl⟩ ⟨by show 200 + 122 * j + 122 ≤ 600000; omega, by show 8000 + 1098 * j + 1098 ≤ 7302250; omega⟩ (Nat.le_of_ble_eq_true rfl) dL_law_607 (fun ad1 H locs hE hW hS => ?_)
        have hl : lv_has ls 4 [(0, .ref b), (1, .ref (ad1 0 0)), (2, .ref (ad1 20 0)), (3, .int (nI (6 * j)))] := by rw [hE 0 0 (by decide) (by decide), hE 20 0 (by decide) (by decide)]; exact hl
        refine lv_aload_n hx hb dL_law_610 rfl (lv_at hl 2 rfl) ?_
        refine lv_aload_n hx hb dL_law_611 rfl (lv_at hl 0 rfl) ?_
        refine lv_iload_n hx hb dL_law_612 rfl (lv_at hl 3 rfl) ?_
        refine lv_iconst (v := 1) hx hb dL_law_613 (by decide) ?_
        refine lv_iadd hx hb dL_law_614 ?_
        refine lw_ld X hX hbl hbA hS (k := 6 * j + 1) (nI_add (6 * j) 1) (by omega) hL dL_law_615 ?_
        obtain ⟨r2, N1, h2, hf⟩ := ob2_some hf
        refine k_yX9_run X hK hZ hW hS hl.1 h2 mlRL_81 ⟨Nat.le_of_ble_eq_true rfl, Nat.le_of_ble_eq_true rfl⟩ ⟨by show 200 + 122 * j + 122 ≤ 600000; omega, by show 8000 + 1098 * j + 1098 ≤ 7302250; omega⟩ (Nat.le_of_ble_eq_true rfl) dL_law_616 (fun H locs hW hS => ?_)
        obtain ⟨hre, hf⟩ := gd_some hf
        refine lv_icmp_eq (tgt := 802) hx hb dL_law_619 (by decide) (fun _ => ?_) (fun cn => absurd hre cn)
        obtain rfl := sp1 hf
        exact nxt (M1, N1) ad1 _ _ ls (200 + 122 * j + 122) (8000 + 1098 * j + 1098) (by omega) (by omega) h2f hW hS hl
      rw [if_neg c15] at h1
      by_cases c16 : xs (6 * j) &&& 31 = 16
      · rw [if_pos c16] at h1
        have hf := h1
        refine lv_tableIn (tgt := 624) hx hb dL_law_33 (by rw [c16]; decide) (by rw [c16]; decide) (by rw [c16]; rfl) (by decide) ?_
        refine lv_aload_n hx hb dL_law_624 rfl (lv_at hl 1 rfl) ?_
        refine lv_aload_n hx hb dL_law_625 rfl (lv_at hl 0 rfl) ?_
        refine lv_iload_n hx hb dL_law_626 rfl (lv_at hl 3 rfl) ?_
        refine lv_iconst (v := 1) hx hb dL_law_627 (by decide) ?_
        refine lv_iadd hx hb dL_law_628 ?_
        refine lw_ld X hX hbl hbA hS (k := 6 * j + 1) (nI_add (6 * j) 1) (by omega) hL dL_law_629 ?_
        refine lv_aload_n hx hb dL_law_630 rfl (lv_at hl 0 rfl) ?_
        refine lv_iload_n hx hb dL_law_631 rfl (lv_at hl 3 rfl) ?_
        refine lv_iconst (v := 2) hx hb dL_law_632 (by decide) ?_
        refine lv_iadd hx hb dL_law_633 ?_
        refine lw_ld X hX hbl hbA hS (k := 6 * j + 2) (nI_add (6 * j) 2) (by omega) hL dL_law_634 ?_
        obtain ⟨r1, h1, hf⟩ := ob1_some hf
        refine k_yX8_told X hK hZ hW hS hl.1 h1 mlRL_82 ⟨Nat.le_of_ble_eq_true rfl, Nat.le_of_ble_eq_true rfl⟩ ⟨by show 200 + 122 * j ≤ 600000; omega, by show 8000 + 1098 * j ≤ 7302250; omega⟩ (Nat.le_of_ble_eq_true rfl) dL_law_635 (fun H locs hW hS => ?_)
        refine lv_aload_n hx hb dL_law_638 rfl (lv_at hl 2 rfl) ?_
        refine lv_aload_n hx hb dL_law_639 rfl (lv_at hl 0 rfl) ?_
        refine lv_iload_n hx hb dL_law_640 rfl (lv_at hl 3 rfl) ?_
        refine lv_iconst (v := 1) hx hb dL_law_641 (by decide) ?_
        refine lv_iadd hx hb dL_law_642 ?_
        refine lw_ld X hX hbl hbA hS (k := 6 * j + 1) (nI_add (6 * j) 1) (by omega) hL dL_law_643 ?_
        refine lv_aload_n hx hb dL_law_644 rfl (lv_at hl 0 rfl) ?_
        refine lv_iload_n hx hb dL_law_645 rfl (lv_at hl 3 rfl) ?_
        refine lv_iconst (v := 2) hx hb dL_law_646 (by decide) ?_
        refine lv_iadd hx hb dL_law_647 ?_
        refine lw_ld X hX hbl hbA hS (k := 6 * j + 2) (nI_add (6 * j) 2) (by omega) hL dL_law_648 ?_
        obtain ⟨r2, h2, hf⟩ := ob1_some hf
        refine k_yX9_told X hK hZ hW hS hl.1 h2 mlRL_85 ⟨Nat.le_of_ble_eq_true rfl, Nat.le_of_ble_eq_true rfl⟩ ⟨by show 200 + 122 * j ≤ 600000; omega, by show 8000 + 1098 * j ≤ 7302250; omega⟩ (Nat.le_of_ble_eq_true rfl) dL_law_649 (fun H locs hW hS => ?_)
        obtain ⟨hre, hf⟩ := gd_some hf
        refine lv_icmp_eq (tgt := 802) hx hb dL_law_652 (by decide) (fun _ => ?_) (fun cn => absurd hre cn)
        obtain rfl := sp1 hf
        exact nxt (M, N) ad _ _ ls (200 + 122 * j) (8000 + 1098 * j) (by omega) (by omega) h2f hW hS hl
      rw [if_neg c16] at h1
      by_cases c17 : xs (6 * j) &&& 31 = 17
      · rw [if_pos c17] at h1
        have hf := h1
        refine lv_tableIn (tgt := 657) hx hb dL_law_33 (by rw [c17]; decide) (by rw [c17]; decide) (by rw [c17]; rfl) (by decide) ?_
        refine lv_aload_n hx hb dL_law_657 rfl (lv_at hl 1 rfl) ?_
        refine lv_aload_n hx hb dL_law_658 rfl (lv_at hl 0 rfl) ?_
        refine lv_iload_n hx hb dL_law_659 rfl (lv_at hl 3 rfl) ?_
        refine lv_iconst (v := 1) hx hb dL_law_660 (by decide) ?_
        refine lv_iadd hx hb dL_law_661 ?_
        refine lw_ld X hX hbl hbA hS (k := 6 * j + 1) (nI_add (6 * j) 1) (by omega) hL dL_law_662 ?_
        refine lv_aload_n hx hb dL_law_663 rfl (lv_at hl 0 rfl) ?_
        refine lv_iload_n hx hb dL_law_664 rfl (lv_at hl 3 rfl) ?_
        refine lv_iconst (v := 2) hx hb dL_law_665 (by decide) ?_
        refine lv_iadd hx hb dL_law_666 ?_
        refine lw_ld X hX hbl hbA hS (k := 6 * j + 2) (nI_add (6 * j) 2) (by omega) hL dL_law_667 ?_
        obtain ⟨r1, h1, hf⟩ := ob1_some hf
        refine k_yX8_register X hK hZ hW hS hl.1 h1 mlRL_86 ⟨Nat.le_of_ble_eq_true rfl, Nat.le_of_ble_eq_true rfl⟩ ⟨by show 200 + 122 * j ≤ 600000; omega, by show 8000 + 1098 * j ≤ 7302250; omega⟩ (Nat.le_of_ble_eq_true rfl) dL_law_668 (fun H locs hW hS => ?_)
        refine lv_aload_n hx hb dL_law_671 rfl (lv_at hl 2 rfl) ?_
        refine lv_aload_n hx hb dL_law_672 rfl (lv_at hl 0 rfl) ?_
        refine lv_iload_n hx hb dL_law_673 rfl (lv_at hl 3 rfl) ?_
        refine lv_iconst (v := 1) hx hb dL_law_674 (by decide) ?_
        refine lv_iadd hx hb dL_law_675 ?_
        refine lw_ld X hX hbl hbA hS (k := 6 * j + 1) (nI_add (6 * j) 1) (by omega) hL dL_law_676 ?_
        refine lv_aload_n hx hb dL_law_677 rfl (lv_at hl 0 rfl) ?_
        refine lv_iload_n hx hb dL_law_678 rfl (lv_at hl 3 rfl) ?_
        refine lv_iconst (v := 2) hx hb dL_law_679 (by decide) ?_
        refine lv_iadd hx hb dL_law_680 ?_
        refine lw_ld X hX hbl hbA hS (k := 6 * j + 2) (nI_add (6 * j) 2) (by omega) hL dL_law_681 ?_
        obtain ⟨r2, h2, hf⟩ := ob1_some hf
        refine k_yX9_register X hK hZ hW hS hl.1 h2 mlRL_89 ⟨Nat.le_of_ble_eq_true rfl, Nat.le_of_ble_eq_true rfl⟩ ⟨by show 200 + 122 * j ≤ 600000; omega, by show 8000 + 1098 * j ≤ 7302250; omega⟩ (Nat.le_of_ble_eq_true rfl) dL_law_682 (fun H locs hW hS => ?_)
        obtain ⟨hre, hf⟩ := gd_some hf
        refine lv_icmp_eq (tgt := 802) hx hb dL_law_685 (by decide) (fun _ => ?_) (fun cn => absurd hre cn)
        obtain rfl := sp1 hf
        exact nxt (M, N) ad _ _ ls (200 + 122 * j) (8000 + 1098 * j) (by omega) (by omega) h2f hW hS hl
      rw [if_neg c17] at h1
      by_cases c18 : xs (6 * j) &&& 31 = 18
      · rw [if_pos c18] at h1
        have hf := h1
        refine lv_tableIn (tgt := 690) hx hb dL_law_33 (by rw [c18]; decide) (by rw [c18]; decide) (by rw [c18]; rfl) (by decide) ?_
        refine lv_aload_n hx hb dL_law_690 rfl (lv_at hl 1 rfl) ?_
        refine lv_aload_n hx hb dL_law_691 rfl (lv_at hl 0 rfl) ?_
        refine lv_iload_n hx hb dL_law_692 rfl (lv_at hl 3 rfl) ?_
        refine lv_iconst (v := 1) hx hb dL_law_693 (by decide) ?_
        refine lv_iadd hx hb dL_law_694 ?_
        refine lw_ld X hX hbl hbA hS (k := 6 * j + 1) (nI_add (6 * j) 1) (by omega) hL dL_law_695 ?_
        refine lv_aload_n hx hb dL_law_696 rfl (lv_at hl 0 rfl) ?_
        refine lv_iload_n hx hb dL_law_697 rfl (lv_at hl 3 rfl) ?_
        refine lv_iconst (v := 2) hx hb dL_law_698 (by decide) ?_
        refine lv_iadd hx hb dL_law_699 ?_
        refine lw_ld X hX hbl hbA hS (k := 6 * j + 2) (nI_add (6 * j) 2) (by omega) hL dL_law_700 ?_
        obtain ⟨r1, h1, hf⟩ := ob1_some hf
        refine k_yX8_hand X hK hZ hW hS hl.1 h1 mlRL_90 ⟨Nat.le_of_ble_eq_true rfl, Nat.le_of_ble_eq_true rfl⟩ ⟨by show 200 + 122 * j ≤ 600000; omega, by show 8000 + 1098 * j ≤ 7302250; omega⟩ (Nat.le_of_ble_eq_true rfl) dL_law_701 (fun H locs hW hS => ?_)
        refine lv_aload_n hx hb dL_law_704 rfl (lv_at hl 2 rfl) ?_
        refine lv_aload_n hx hb dL_law_705 rfl (lv_at hl 0 rfl) ?_
        refine lv_iload_n hx hb dL_law_706 rfl (lv_at hl 3 rfl) ?_
        refine lv_iconst (v := 1) hx hb dL_law_707 (by decide) ?_
        refine lv_iadd hx hb dL_law_708 ?_
        refine lw_ld X hX hbl hbA hS (k := 6 * j + 1) (nI_add (6 * j) 1) (by omega) hL dL_law_709 ?_
        refine lv_aload_n hx hb dL_law_710 rfl (lv_at hl 0 rfl) ?_
        refine lv_iload_n hx hb dL_law_711 rfl (lv_at hl 3 rfl) ?_
        refine lv_iconst (v := 2) hx hb dL_law_712 (by decide) ?_
        refine lv_iadd hx hb dL_law_713 ?_
        refine lw_ld X hX hbl hbA hS (k := 6 * j + 2) (nI_add (6 * j) 2) (by omega) hL dL_law_714 ?_
        obtain ⟨r2, h2, hf⟩ := ob1_some hf
        refine k_yX9_hand X hK hZ hW hS hl.1 h2 mlRL_93 ⟨Nat.le_of_ble_eq_true rfl, Nat.le_of_ble_eq_true rfl⟩ ⟨by show 200 + 122 * j ≤ 600000; omega, by show 8000 + 1098 * j ≤ 7302250; omega⟩ (Nat.le_of_ble_eq_true rfl) dL_law_715 (fun H locs hW hS => ?_)
        obtain ⟨hre, hf⟩ := gd_some hf
        refine lv_icmp_eq (tgt := 802) hx hb dL_law_718 (by decide) (fun _ => ?_) (fun cn => absurd hre cn)
        obtain rfl := sp1 hf
        exact nxt (M, N) ad _ _ ls (200 + 122 * j) (8000 + 1098 * j) (by omega) (by omega) h2f hW hS hl
      rw [if_neg c18] at h1
      by_cases c19 : xs (6 * j) &&& 31 = 19
      · rw [if_pos c19] at h1
        have hf := h1
        refine lv_tableIn (tgt := 723) hx hb dL_law_33 (by rw [c19]; decide) (by rw [c19]; decide) (by rw [c19]; rfl) (by decide) ?_
        refine lv_aload_n hx hb dL_law_723 rfl (lv_at hl 1 rfl) ?_
        refine lv_aload_n hx hb dL_law_724 rfl (lv_at hl 0 rfl) ?_
        refine lv_iload_n hx hb dL_law_725 rfl (lv_at hl 3 rfl) ?_
        refine lv_iconst (v := 1) hx hb dL_law_726 (by decide) ?_
        refine lv_iadd hx hb dL_law_727 ?_
        refine lw_ld X hX hbl hbA hS (k := 6 * j + 1) (nI_add (6 * j) 1) (by omega) hL dL_law_728 ?_
        obtain ⟨r1, h1, hf⟩ := ob1_some hf
        refine k_yX8_ring X hK hZ hW hS hl.1 h1 mlRL_94 ⟨Nat.le_of_ble_eq_true rfl, Nat.le_of_ble_eq_true rfl⟩ ⟨by show 200 + 122 * j ≤ 600000; omega, by show 8000 + 1098 * j ≤ 7302250; omega⟩ (Nat.le_of_ble_eq_true rfl) dL_law_729 (fun H locs hW hS => ?_)
        refine lv_aload_n hx hb dL_law_732 rfl (lv_at hl 2 rfl) ?_
        refine lv_aload_n hx hb dL_law_733 rfl (lv_at hl 0 rfl) ?_
        refine lv_iload_n hx hb dL_law_734 rfl (lv_at hl 3 rfl) ?_
        refine lv_iconst (v := 1) hx hb dL_law_735 (by decide) ?_
        refine lv_iadd hx hb dL_law_736 ?_
        refine lw_ld X hX hbl hbA hS (k := 6 * j + 1) (nI_add (6 * j) 1) (by omega) hL dL_law_737 ?_
        obtain ⟨r2, h2, hf⟩ := ob1_some hf
        refine k_yX9_ring X hK hZ hW hS hl.1 h2 mlRL_97 ⟨Nat.le_of_ble_eq_true rfl, Nat.le_of_ble_eq_true rfl⟩ ⟨by show 200 + 122 * j ≤ 600000; omega, by show 8000 + 1098 * j ≤ 7302250; omega⟩ (Nat.le_of_ble_eq_true rfl) dL_law_738 (fun H locs hW hS => ?_)
        obtain ⟨hre, hf⟩ := gd_some hf
        refine lv_icmp_eq (tgt := 802) hx hb dL_law_741 (by decide) (fun _ => ?_) (fun cn => absurd hre cn)
        obtain rfl := sp1 hf
        exact nxt (M, N) ad _ _ ls (200 + 122 * j) (8000 + 1098 * j) (by omega) (by omega) h2f hW hS hl
      rw [if_neg c19] at h1
      by_cases c20 : xs (6 * j) &&& 31 = 20
      · rw [if_pos c20] at h1
        have hf := h1
        refine lv_tableIn (tgt := 746) hx hb dL_law_33 (by rw [c20]; decide) (by rw [c20]; decide) (by rw [c20]; rfl) (by decide) ?_
        refine lv_aload_n hx hb dL_law_746 rfl (lv_at hl 1 rfl) ?_
        refine lv_aload_n hx hb dL_law_747 rfl (lv_at hl 0 rfl) ?_
        refine lv_iload_n hx hb dL_law_748 rfl (lv_at hl 3 rfl) ?_
        refine lv_iconst (v := 1) hx hb dL_law_749 (by decide) ?_
        refine lv_iadd hx hb dL_law_750 ?_
        refine lw_ld X hX hbl hbA hS (k := 6 * j + 1) (nI_add (6 * j) 1) (by omega) hL dL_law_751 ?_
        refine lv_aload_n hx hb dL_law_752 rfl (lv_at hl 0 rfl) ?_
        refine lv_iload_n hx hb dL_law_753 rfl (lv_at hl 3 rfl) ?_
        refine lv_iconst (v := 2) hx hb dL_law_754 (by decide) ?_
        refine lv_iadd hx hb dL_law_755 ?_
        refine lw_ld X hX hbl hbA hS (k := 6 * j + 2) (nI_add (6 * j) 2) (by omega) hL dL_law_756 ?_
        obtain ⟨r1, h1, hf⟩ := ob1_some hf
        refine k_yX8_log X hK hZ hW hS hl.1 h1 mlRL_98 ⟨Nat.le_of_ble_eq_true rfl, Nat.le_of_ble_eq_true rfl⟩ ⟨by show 200 + 122 * j ≤ 600000; omega, by show 8000 + 1098 * j ≤ 7302250; omega⟩ (Nat.le_of_ble_eq_true rfl) dL_law_757 (fun H locs hW hS => ?_)
        refine lv_aload_n hx hb dL_law_760 rfl (lv_at hl 2 rfl) ?_
        refine lv_aload_n hx hb dL_law_761 rfl (lv_at hl 0 rfl) ?_
        refine lv_iload_n hx hb dL_law_762 rfl (lv_at hl 3 rfl) ?_
        refine lv_iconst (v := 1) hx hb dL_law_763 (by decide) ?_
        refine lv_iadd hx hb dL_law_764 ?_
        refine lw_ld X hX hbl hbA hS (k := 6 * j + 1) (nI_add (6 * j) 1) (by omega) hL dL_law_765 ?_
        refine lv_aload_n hx hb dL_law_766 rfl (lv_at hl 0 rfl) ?_
        refine lv_iload_n hx hb dL_law_767 rfl (lv_at hl 3 rfl) ?_
        refine lv_iconst (v := 2) hx hb dL_law_768 (by decide) ?_
        refine lv_iadd hx hb dL_law_769 ?_
        refine lw_ld X hX hbl hbA hS (k := 6 * j + 2) (nI_add (6 * j) 2) (by omega) hL dL_law_770 ?_
        obtain ⟨r2, h2, hf⟩ := ob1_some hf
        refine k_yX9_log X hK hZ hW hS hl.1 h2 mlRL_101 ⟨Nat.le_of_ble_eq_true rfl, Nat.le_of_ble_eq_true rfl⟩ ⟨by show 200 + 122 * j ≤ 600000; omega, by show 8000 + 1098 * j ≤ 7302250; omega⟩ (Nat.le_of_ble_eq_true rfl) dL_law_771 (fun H locs hW hS => ?_)
        obtain ⟨hre, hf⟩ := gd_some hf
        refine lv_icmp_eq (tgt := 802) hx hb dL_law_774 (by decide) (fun _ => ?_) (fun cn => absurd hre cn)
        obtain rfl := sp1 hf
        exact nxt (M, N) ad _ _ ls (200 + 122 * j) (8000 + 1098 * j) (by omega) (by omega) h2f hW hS hl
      rw [if_neg c20] at h1
      by_cases c21 : xs (6 * j) &&& 31 = 21
      · rw [if_pos c21] at h1
        have hf := h1
        refine lv_tableIn (tgt := 779) hx hb dL_law_33 (by rw [c21]; decide) (by rw [c21]; decide) (by rw [c21]; rfl) (by decide) ?_
        refine lv_aload_n hx hb dL_law_779 rfl (lv_at hl 1 rfl) ?_
        refine lv_aload_n hx hb dL_law_780 rfl (lv_at hl 0 rfl) ?_
        refine lv_iload_n hx hb dL_law_781 rfl (lv_at hl 3 rfl) ?_
        refine lv_iconst (v := 1) hx hb dL_law_782 (by decide) ?_
        refine lv_iadd hx hb dL_law_783 ?_
        refine lw_ld X hX hbl hbA hS (k := 6 * j + 1) (nI_add (6 * j) 1) (by omega) hL dL_law_784 ?_
        obtain ⟨r1, h1, hf⟩ := ob1_some hf
        refine k_yX8_count X hK hZ hW hS hl.1 h1 mlRL_102 ⟨Nat.le_of_ble_eq_true rfl, Nat.le_of_ble_eq_true rfl⟩ ⟨by show 200 + 122 * j ≤ 600000; omega, by show 8000 + 1098 * j ≤ 7302250; omega⟩ (Nat.le_of_ble_eq_true rfl) dL_law_785 (fun H locs hW hS => ?_)
        refine lv_aload_n hx hb dL_law_788 rfl (lv_at hl 2 rfl) ?_
        refine lv_aload_n hx hb dL_law_789 rfl (lv_at hl 0 rfl) ?_
        refine lv_iload_n hx hb dL_law_790 rfl (lv_at hl 3 rfl) ?_
        refine lv_iconst (v := 1) hx hb dL_law_791 (by decide) ?_
        refine lv_iadd hx hb dL_law_792 ?_
        refine lw_ld X hX hbl hbA hS (k := 6 * j + 1) (nI_add (6 * j) 1) (by omega) hL dL_law_793 ?_
        obtain ⟨r2, h2, hf⟩ := ob1_some hf
        refine k_yX9_count X hK hZ hW hS hl.1 h2 mlRL_105 ⟨Nat.le_of_ble_eq_true rfl, Nat.le_of_ble_eq_true rfl⟩ ⟨by show 200 + 122 * j ≤ 600000; omega, by show 8000 + 1098 * j ≤ 7302250; omega⟩ (Nat.le_of_ble_eq_true rfl) dL_law_794 (fun H locs hW hS => ?_)
        obtain ⟨hre, hf⟩ := gd_some hf
        refine lv_icmp_eq (tgt := 802) hx hb dL_law_797 (by decide) (fun _ => ?_) (fun cn => absurd hre cn)
        obtain rfl := sp1 hf
        exact nxt (M, N) ad _ _ ls (200 + 122 * j) (8000 + 1098 * j) (by omega) (by omega) h2f hW hS hl
      rw [if_neg c21] at h1
      obtain rfl := sp1 h1
      refine lv_tableOut (tgt := 802) hx hb dL_law_33 (by have := lv_neT (a := 0) c0 (by decide); have := lv_neT (a := 1) c1 (by decide); have := lv_neT (a := 2) c2 (by decide); have := lv_neT (a := 3) c3 (by decide); have := lv_neT (a := 4) c4 (by decide); have := lv_neT (a := 5) c5 (by decide); have := lv_neT (a := 6) c6 (by decide); have := lv_neT (a := 7) c7 (by decide); have := lv_neT (a := 8) c8 (by decide); have := lv_neT (a := 9) c9 (by decide); have := lv_neT (a := 10) c10 (by decide); have := lv_neT (a := 11) c11 (by decide); have := lv_neT (a := 12) c12 (by decide); have := lv_neT (a := 13) c13 (by decide); have := lv_neT (a := 14) c14 (by decide); have := lv_neT (a := 15) c15 (by decide); have := lv_neT (a := 16) c16 (by decide); have := lv_neT (a := 17) c17 (by decide); have := lv_neT (a := 18) c18 (by decide); have := lv_neT (a := 19) c19 (by decide); have := lv_neT (a := 20) c20 (by decide); have := lv_neT (a := 21) c21 (by decide); omega) (by decide) ?_
      exact nxt (M, N) ad _ _ ls (200 + 122 * j) (8000 + 1098 * j) (by omega) (by omega) h2f hW hS hl
