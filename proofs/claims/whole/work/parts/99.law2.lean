/-! the law's loop: by program -/
set_option maxHeartbeats 8000000 in
set_option maxRecDepth 100000 in
/-- the law's loop -/
theorem law_loop {p : Program} {l : Launch} {e : Env} {s : State} {m : MethodId} {below : List Frame} {meth : Method} {c : Code} {D : va_G} {ty : Nat → ClassId} {ad : Nat → Nat} {b L M : Nat} {xs : Nat → Int32} (hM : M = 105) (hl0 : l.stackTraces = false) (hL : L ≤ 3072) (hx : p.tables.exec = Jvm.exec) (hb : c.code = code) (hr : meth.sig.returnType = ret) (hml : c.maxLocals = 8) (hown : s.vm.findClass R_L = some m.cls) (hq : ∀ w ∈ wT, w.before #[Value.ref b] s = true) (hX : va_X b L xs s s.heap) (hbl : b < s.heap.size) (hlocks : meth.locks = false)
    (hA : ∀ q, pA ad M s.heap.size q → s.heap.size ≤ q) (hxk : xk ad M s) (hNc : va_Nc xS xE s) (cn0 sn0 i0 : Nat) (g0 : Sg) (co0 : Int) (oo : Nat → Int64) (F : Nat → va_E) (H : Heap) (locs : List Loc) (ls : Array Slot) (hi0 : i0 ≤ L + 5) (hcn0 : cn0 ≤ 200 + 2 * i0) (hsn0 : sn0 ≤ 30000 + 8 * i0) (hok0 : okS g0) (hDk : Dk ty ad F g0) (hMo : Mo ty ad F co0 g0) (h104 : F 104 = .inl (ty 3, 1, .inr (.inl (oo)))) (hw : pw D classes (tysL ty) ad M F (pA ad M s.heap.size) s H locs)
    (hl : lv_has ls 8 [(0, .ref (b)), (1, .ref (ad (0))), (2, .ref (ad (98))), (3, .ref (ad (104))), (4, .int (iI ((i0 : Int))))]) : W p l e room_1 s m #[Value.ref b] below meth c H locs cn0 sn0 (lw_Z below #[Value.ref b] s) (F0 m 23 ls []) := by
  have hbA : ¬ pA ad M s.heap.size b := fun h9 => absurd (hA _ h9) (by omega)
  have K23 : ∀ (fuel : Nat) (i cn sn : Nat) (g : Sg) (co : Int) (o0 : Nat → Int64) (F23 : Nat → va_E) (H : Heap) (locs : List Loc) (ls : Array Slot), L - i < fuel → (i ≤ L + 5) → (cn ≤ 200 + 2 * i) → (sn ≤ 30000 + 8 * i) → (okS g) → Dk ty ad F23 (g) → Mo ty ad F23 (co) (g) → F23 (104) = .inl (ty 3, 1, .inr (.inl (o0))) → pw D classes (tysL ty) ad M F23 (pA ad M s.heap.size) s H locs → lv_has ls 8 [(0, .ref (b)), (1, .ref (ad (0))), (2, .ref (ad (98))), (3, .ref (ad (104))), (4, .int (iI ((i : Int))))] → W p l e room_1 s m #[Value.ref b] below meth c H locs cn sn (lw_Z below #[Value.ref b] s) (F0 m 23 ls []) := by
    intro fuel
    induction fuel with
    | zero => intro i cn sn g co o0 F23 H locs ls hfuel hi hcn hsn hok hDk hMo h104 hw hl; exact absurd hfuel (Nat.not_lt_zero _)
    | succ fuel ih23 =>
      intro i cn sn g co o0 F23 H locs ls hfuel hi hcn hsn hok hDk hMo h104 hw hl
      refine lv_iload hx hb d_L_law_23 (lv_at hl 4 rfl) ?_
      refine lv_aload_n hx hb d_L_law_25 rfl (lv_at hl 0 rfl) ?_
      refine va_slen hx hb hX hbl hbA hw.2.2.2.1 d_L_law_26 ?_
      rw [show Int32.ofNat L = iI (L : Int) from (iI_nat L).symm]
      refine wz_bipush (n := 6) hx hb d_L_law_27 (by decide) ?_
      refine wz_isub hx hb d_L_law_29 rfl ?_
      refine wz_icmp_gt (tgt := 997) hx hb d_L_law_30 (by decide) (by omega) (by omega) (by omega) (by omega) (fun c30 => ?_) (fun c30 => ?_)
      · refine wz_iconst (n := 1) hx hb d_L_law_997 ?_
        refine va_forget (fun q hq => hA _ (hw.2.2.2.1.2.2 q hq)) ?_
        refine W.widen (k := 601024) (n := 7293034) (by omega) (by omega) ?_
        exact lw_ret hx hb hr hlocks d_L_law_998
      · obtain ⟨z0, hz0a, hz0b, e0⟩ := iI_ex (xs i)
        have hz0 : -2147483648 ≤ z0 ∧ z0 < 2147483648 := ⟨hz0a, hz0b⟩
        obtain ⟨z1, hz1a, hz1b, e1⟩ := iI_ex (xs (i + 1))
        have hz1 : -2147483648 ≤ z1 ∧ z1 < 2147483648 := ⟨hz1a, hz1b⟩
        obtain ⟨z2, hz2a, hz2b, e2⟩ := iI_ex (xs (i + 2))
        have hz2 : -2147483648 ≤ z2 ∧ z2 < 2147483648 := ⟨hz2a, hz2b⟩
        obtain ⟨z3, hz3a, hz3b, e3⟩ := iI_ex (xs (i + 3))
        have hz3 : -2147483648 ≤ z3 ∧ z3 < 2147483648 := ⟨hz3a, hz3b⟩
        obtain ⟨z4, hz4a, hz4b, e4⟩ := iI_ex (xs (i + 4))
        have hz4 : -2147483648 ≤ z4 ∧ z4 < 2147483648 := ⟨hz4a, hz4b⟩
        obtain ⟨z5, hz5a, hz5b, e5⟩ := iI_ex (xs (i + 5))
        have hz5 : -2147483648 ≤ z5 ∧ z5 < 2147483648 := ⟨hz5a, hz5b⟩
        refine lv_aload_n hx hb d_L_law_33 rfl (lv_at hl 0 rfl) ?_
        refine lv_iload hx hb d_L_law_34 (lv_at hl 4 rfl) ?_
        refine va_sld (i := iI ((i : Int))) hx hb hX hbl hbA hw.2.2.2.1 (iI_in (by omega) (by omega) (by omega)) d_L_law_36 ?_
        refine lv_topi (fun x36 ex36 => ?_)
        obtain rfl : x36 = iI (z0) := ex36.trans (by rw [iI_cl (by omega) (by omega), show ((i : Int)).toNat = i by omega]; exact e0)
        refine wz_bipush (n := 15) hx hb d_L_law_37 (by decide) ?_
        obtain ⟨kk, hk0, hk1, ekk⟩ := iI_15 hz0a hz0b
        refine lv_iand hx hb d_L_law_39 ?_
        refine lv_topi (fun x39 ex39 => ?_)
        obtain rfl : x39 = iI (kk) := ex39.trans (ekk)
        by_cases c40_0 : kk = 0
        · refine wz_tabIn (k := 0) (off := 72) (tgt := 112) hx hb d_L_law_40 c40_0 (by omega) (by omega) (by decide) rfl (by decide) ?_
          obtain ⟨t2, ht2a, ht2b, eT2⟩ := iL_ex (((iL (z2)) <<< ((iI (32)).toInt64 &&& 63)) ||| ((iL (z3)) &&& (iL (4294967295))))
          have ht2 : -9223372036854775808 ≤ t2 ∧ t2 < 9223372036854775808 := ⟨ht2a, ht2b⟩
          obtain ⟨t4, ht4a, ht4b, eT4⟩ := iL_ex (((iL (z4)) <<< ((iI (32)).toInt64 &&& 63)) ||| ((iL (z5)) &&& (iL (4294967295))))
          have ht4 : -9223372036854775808 ≤ t4 ∧ t4 < 9223372036854775808 := ⟨ht4a, ht4b⟩
          have hab := (b_set g z1 t2 t4).1
          refine lv_aload_n hx hb d_L_law_112 rfl (lv_at hl 1 rfl) ?_
          refine lv_aload_n hx hb d_L_law_113 rfl (lv_at hl 0 rfl) ?_
          refine lv_iload hx hb d_L_law_114 (lv_at hl 4 rfl) ?_
          refine wz_iconst (n := 1) hx hb d_L_law_116 ?_
          refine wz_iadd hx hb d_L_law_117 rfl ?_
          refine va_sld (i := iI ((i : Int) + 1)) hx hb hX hbl hbA hw.2.2.2.1 (iI_in (by omega) (by omega) (by omega)) d_L_law_118 ?_
          refine lv_topi (fun x118 ex118 => ?_)
          obtain rfl : x118 = iI (z1) := ex118.trans (by rw [iI_cl (by omega) (by omega), show ((i : Int) + 1).toNat = i + 1 by omega]; exact e1)
          refine lv_aload_n hx hb d_L_law_119 rfl (lv_at hl 0 rfl) ?_
          refine lv_iload hx hb d_L_law_120 (lv_at hl 4 rfl) ?_
          refine wz_iconst (n := 2) hx hb d_L_law_122 ?_
          refine wz_iadd hx hb d_L_law_123 rfl ?_
          refine va_sld (i := iI ((i : Int) + 2)) hx hb hX hbl hbA hw.2.2.2.1 (iI_in (by omega) (by omega) (by omega)) d_L_law_124 ?_
          refine lv_topi (fun x124 ex124 => ?_)
          obtain rfl : x124 = iI (z2) := ex124.trans (by rw [iI_cl (by omega) (by omega), show ((i : Int) + 2).toNat = i + 2 by omega]; exact e2)
          refine wz_i2l hx hb d_L_law_125 (by omega) (by omega) ?_
          refine wz_bipush (n := 32) hx hb d_L_law_126 (by decide) ?_
          refine lv_lshl (v := (iL (z2)) <<< ((iI (32)).toInt64 &&& 63)) hx hb d_L_law_128 (rfl) ?_
          refine lv_aload_n hx hb d_L_law_129 rfl (lv_at hl 0 rfl) ?_
          refine lv_iload hx hb d_L_law_130 (lv_at hl 4 rfl) ?_
          refine wz_iconst (n := 3) hx hb d_L_law_132 ?_
          refine wz_iadd hx hb d_L_law_133 rfl ?_
          refine va_sld (i := iI ((i : Int) + 3)) hx hb hX hbl hbA hw.2.2.2.1 (iI_in (by omega) (by omega) (by omega)) d_L_law_134 ?_
          refine lv_topi (fun x134 ex134 => ?_)
          obtain rfl : x134 = iI (z3) := ex134.trans (by rw [iI_cl (by omega) (by omega), show ((i : Int) + 3).toNat = i + 3 by omega]; exact e3)
          refine wz_i2l hx hb d_L_law_135 (by omega) (by omega) ?_
          refine lv_ldc2 (v := iL (4294967295)) hx hb hown (hq _ cj_L_53) d_L_law_136 ?_
          refine lv_land hx hb d_L_law_139 ?_
          refine lv_lor hx hb d_L_law_140 ?_
          refine lv_topl (fun x140 ex140 => ?_)
          obtain rfl : x140 = iL (t2) := ex140.trans (eT2)
          refine lv_aload_n hx hb d_L_law_141 rfl (lv_at hl 0 rfl) ?_
          refine lv_iload hx hb d_L_law_142 (lv_at hl 4 rfl) ?_
          refine wz_iconst (n := 4) hx hb d_L_law_144 ?_
          refine wz_iadd hx hb d_L_law_145 rfl ?_
          refine va_sld (i := iI ((i : Int) + 4)) hx hb hX hbl hbA hw.2.2.2.1 (iI_in (by omega) (by omega) (by omega)) d_L_law_146 ?_
          refine lv_topi (fun x146 ex146 => ?_)
          obtain rfl : x146 = iI (z4) := ex146.trans (by rw [iI_cl (by omega) (by omega), show ((i : Int) + 4).toNat = i + 4 by omega]; exact e4)
          refine wz_i2l hx hb d_L_law_147 (by omega) (by omega) ?_
          refine wz_bipush (n := 32) hx hb d_L_law_148 (by decide) ?_
          refine lv_lshl (v := (iL (z4)) <<< ((iI (32)).toInt64 &&& 63)) hx hb d_L_law_150 (rfl) ?_
          refine lv_aload_n hx hb d_L_law_151 rfl (lv_at hl 0 rfl) ?_
          refine lv_iload hx hb d_L_law_152 (lv_at hl 4 rfl) ?_
          refine wz_iconst (n := 5) hx hb d_L_law_154 ?_
          refine wz_iadd hx hb d_L_law_155 rfl ?_
          refine va_sld (i := iI ((i : Int) + 5)) hx hb hX hbl hbA hw.2.2.2.1 (iI_in (by omega) (by omega) (by omega)) d_L_law_156 ?_
          refine lv_topi (fun x156 ex156 => ?_)
          obtain rfl : x156 = iI (z5) := ex156.trans (by rw [iI_cl (by omega) (by omega), show ((i : Int) + 5).toNat = i + 5 by omega]; exact e5)
          refine wz_i2l hx hb d_L_law_157 (by omega) (by omega) ?_
          refine lv_ldc2 (v := iL (4294967295)) hx hb hown (hq _ cj_L_53) d_L_law_158 ?_
          refine lv_land hx hb d_L_law_161 ?_
          refine lv_lor hx hb d_L_law_162 ?_
          refine lv_topl (fun x162 ex162 => ?_)
          obtain rfl : x162 = iL (t4) := ex162.trans (eT4)
          refine px_calli hw (vx_runSX (As := [.ref (ad (0)), .int (iI (z1)), .long (iL (t2)), .long (iL (t4))]) (rest := []) ⟨hx, hb, hml, hown, hq⟩ (c_L_set l D ty ad M F23 H.size hl0 (by omega) g hDk hok z1 hz1 t2 ht2 t4 ht4) (vx_cwSW 4 hq (gSW ml_L_55 st_L_set in_L m_L_set) rfl rfl rfl (by decide +kernel) ⟨Nat.le_of_ble_eq_true rfl, Nat.le_of_ble_eq_true rfl⟩) (px_preS hw hxk) rfl rfl hl.1 rfl (lv_room (Nat.le_of_ble_eq_true rfl)) d_L_law_163 ⟨by show cn + 8 ≤ 601024; omega, by show sn + 48 ≤ 7293034; omega⟩) (fun _ _ _ _ _ _ hp9 => hp9.elim) ?_
          intro r163 F163 H locs q163 hw
          obtain ⟨er163, hDk, hf163⟩ := q163
          subst er163
          have hMo_at_163 : Mo ty ad F163 (co) (g) := Mo.fr hMo (fun y8 h7 h8 => hf163 (y8) (by omega))
          have h104_at_163 : F163 (104) = .inl (ty 3, 1, .inr (.inl (o0))) := (hf163 (104) (by omega)).trans h104
          refine lv_istore (lv' := [(5, .int (iI ((o_set g z1 t2 t4).1))), (0, .ref (b)), (1, .ref (ad (0))), (2, .ref (ad (98))), (3, .ref (ad (104))), (4, .int (iI ((i : Int))))]) hx hb d_L_law_166 hl (by decide) rfl (fun ls hl => ?_)
          refine lv_aload_n hx hb d_L_law_168 rfl (lv_at hl 3 rfl) ?_
          refine lv_aload_n hx hb d_L_law_169 rfl (lv_at hl 1 rfl) ?_
          refine lv_iload hx hb d_L_law_170 (lv_at hl 5 rfl) ?_
          refine wz_iconst (n := 1) hx hb d_L_law_172 ?_
          refine wz_iadd hx hb d_L_law_173 rfl ?_
          refine va_sld (i := iI ((i : Int) + 1)) hx hb hX hbl hbA hw.2.2.2.1 (iI_in (by omega) (by omega) (by omega)) d_L_law_174 ?_
          refine lv_topi (fun x174 ex174 => ?_)
          obtain rfl : x174 = iI (z1) := ex174.trans (by rw [iI_cl (by omega) (by omega), show ((i : Int) + 1).toNat = i + 1 by omega]; exact e1)
          refine lv_aload_n hx hb d_L_law_175 rfl (lv_at hl 1 rfl) ?_
          refine lv_iload hx hb d_L_law_176 (lv_at hl 5 rfl) ?_
          refine wz_iconst (n := 2) hx hb d_L_law_178 ?_
          refine wz_iadd hx hb d_L_law_179 rfl ?_
          refine va_sld (i := iI ((i : Int) + 2)) hx hb hX hbl hbA hw.2.2.2.1 (iI_in (by omega) (by omega) (by omega)) d_L_law_180 ?_
          refine lv_topi (fun x180 ex180 => ?_)
          obtain rfl : x180 = iI (z2) := ex180.trans (by rw [iI_cl (by omega) (by omega), show ((i : Int) + 2).toNat = i + 2 by omega]; exact e2)
          refine wz_i2l hx hb d_L_law_181 (by omega) (by omega) ?_
          refine wz_bipush (n := 32) hx hb d_L_law_182 (by decide) ?_
          refine lv_lshl (v := (iL (z2)) <<< ((iI (32)).toInt64 &&& 63)) hx hb d_L_law_184 (rfl) ?_
          refine lv_aload_n hx hb d_L_law_185 rfl (lv_at hl 1 rfl) ?_
          refine lv_iload hx hb d_L_law_186 (lv_at hl 5 rfl) ?_
          refine wz_iconst (n := 3) hx hb d_L_law_188 ?_
          refine wz_iadd hx hb d_L_law_189 rfl ?_
          refine va_sld (i := iI ((i : Int) + 3)) hx hb hX hbl hbA hw.2.2.2.1 (iI_in (by omega) (by omega) (by omega)) d_L_law_190 ?_
          refine lv_topi (fun x190 ex190 => ?_)
          obtain rfl : x190 = iI (z3) := ex190.trans (by rw [iI_cl (by omega) (by omega), show ((i : Int) + 3).toNat = i + 3 by omega]; exact e3)
          refine wz_i2l hx hb d_L_law_191 (by omega) (by omega) ?_
          refine lv_ldc2 (v := iL (4294967295)) hx hb hown (hq _ cj_L_53) d_L_law_192 ?_
          refine lv_land hx hb d_L_law_195 ?_
          refine lv_lor hx hb d_L_law_196 ?_
          refine lv_topl (fun x196 ex196 => ?_)
          obtain rfl : x196 = iL (t2) := ex196.trans (eT2)
          refine lv_aload_n hx hb d_L_law_197 rfl (lv_at hl 1 rfl) ?_
          refine lv_iload hx hb d_L_law_198 (lv_at hl 5 rfl) ?_
          refine wz_iconst (n := 4) hx hb d_L_law_200 ?_
          refine wz_iadd hx hb d_L_law_201 rfl ?_
          refine va_sld (i := iI ((i : Int) + 4)) hx hb hX hbl hbA hw.2.2.2.1 (iI_in (by omega) (by omega) (by omega)) d_L_law_202 ?_
          refine lv_topi (fun x202 ex202 => ?_)
          obtain rfl : x202 = iI (z4) := ex202.trans (by rw [iI_cl (by omega) (by omega), show ((i : Int) + 4).toNat = i + 4 by omega]; exact e4)
          refine wz_i2l hx hb d_L_law_203 (by omega) (by omega) ?_
          refine wz_bipush (n := 32) hx hb d_L_law_204 (by decide) ?_
          refine lv_lshl (v := (iL (z4)) <<< ((iI (32)).toInt64 &&& 63)) hx hb d_L_law_206 (rfl) ?_
          refine lv_aload_n hx hb d_L_law_207 rfl (lv_at hl 1 rfl) ?_
          refine lv_iload hx hb d_L_law_208 (lv_at hl 5 rfl) ?_
          refine wz_iconst (n := 5) hx hb d_L_law_210 ?_
          refine wz_iadd hx hb d_L_law_211 rfl ?_
          refine va_sld (i := iI ((i : Int) + 5)) hx hb hX hbl hbA hw.2.2.2.1 (iI_in (by omega) (by omega) (by omega)) d_L_law_212 ?_
          refine lv_topi (fun x212 ex212 => ?_)
          obtain rfl : x212 = iI (z5) := ex212.trans (by rw [iI_cl (by omega) (by omega), show ((i : Int) + 5).toNat = i + 5 by omega]; exact e5)
          refine wz_i2l hx hb d_L_law_213 (by omega) (by omega) ?_
          refine lv_ldc2 (v := iL (4294967295)) hx hb hown (hq _ cj_L_53) d_L_law_214 ?_
          refine lv_land hx hb d_L_law_217 ?_
          refine lv_lor hx hb d_L_law_218 ?_
          refine lv_topl (fun x218 ex218 => ?_)
          obtain rfl : x218 = iL (t4) := ex218.trans (eT4)
          refine pw_callv hw (va_runV (As := [.int (iI (z1)), .long (iL (t2)), .long (iL (t4))]) (rest := []) ⟨hx, hb, hml, hown, hq⟩ (c_M_set l D ty ad M F163 H.size (by omega) g (co) hMo_at_163 hok z1 hz1 t2 ht2 t4 ht4) (cwV 3 hq (gV ml_L_60 im_M_set se_M_set in_M m_M_set) rfl rfl rfl (by decide +kernel) ⟨Nat.le_of_ble_eq_true rfl, Nat.le_of_ble_eq_true rfl⟩) (pw_preV hw (by omega) hMo_at_163.1 rfl) rfl rfl hl.1 rfl (lv_room (Nat.le_of_ble_eq_true rfl)) d_L_law_219 ⟨by show cn + 8 ≤ 601024; omega, by show sn + 48 ≤ 7293034; omega⟩) (fun F219 H locs q219 hw => ?_)
          obtain ⟨hMo, hf219⟩ := q219
          have h104_at_219 : F219 (104) = .inl (ty 3, 1, .inr (.inl (o0))) := (hf219 (104) (by omega)).trans h104_at_163
          have hDk_at_219 : Dk ty ad F219 ((o_set g z1 t2 t4).2.2) := Dk.fr hDk (fun y8 h8 => hf219 (y8) (by omega))
          refine lv_aload_n hx hb d_L_law_222 rfl (lv_at hl 3 rfl) ?_
          refine pw_calli hw (va_runV (As := []) (rest := []) ⟨hx, hb, hml, hown, hq⟩ (c_M_thrown l D ty ad M F219 H.size (by omega) _ _ _ hMo.1) (cwV 0 hq (gV ml_L_61 im_M_thrown se_M_thrown in_M m_M_thrown) rfl rfl rfl (by decide +kernel) ⟨Nat.le_of_ble_eq_true rfl, Nat.le_of_ble_eq_true rfl⟩) (pw_preV hw (by omega) hMo.1 rfl) rfl rfl hl.1 rfl (lv_room (Nat.le_of_ble_eq_true rfl)) d_L_law_223 ⟨by show cn + 8 ≤ 601024; omega, by show sn + 48 ≤ 7293034; omega⟩) (fun r223 F223 H locs q223 hw => ?_)
          obtain ⟨er223, eF223⟩ := q223
          rw [eF223] at hw
          clear eF223
          subst er223
          refine lv_iload hx hb d_L_law_226 (lv_at hl 0 rfl) ?_
          refine wz_icmp_eq (tgt := 233) hx hb d_L_law_228 (by decide) (by omega) (by omega) (by omega) (by omega) (fun c228 => ?_) (fun c228 => ?_)
          · refine lv_goto (tgt := 991) hx hb d_L_law_233 (by decide) ?_
            refine wz_iinc (z := ((i + 6 : Nat) : Int)) (lv' := [(4, .int (iI (((i + 6 : Nat) : Int)))), (5, .int (iI ((o_set g z1 t2 t4).1))), (0, .ref (b)), (1, .ref (ad (0))), (2, .ref (ad (98))), (3, .ref (ad (104)))]) hx hb d_L_law_991 hl (k := 5) rfl (by omega) (by decide) rfl (fun ls hl => ?_)
            refine lv_goto (tgt := 23) hx hb d_L_law_994 (by decide) ?_
            exact ih23 (i + 6) _ _ ((o_set g z1 t2 t4).2.2) ((o_set g z1 t2 t4).1) _ _ _ _ ls (by omega) (by omega) (by omega) (by omega) (hok.set _ _ _) hDk_at_219 hMo h104_at_219 hw (lv_sub hl [2, 3, 4, 5, 0] rfl)
          · exact absurd rfl c228
        · skip
          by_cases c40_1 : kk = 1
          · refine wz_tabIn (k := 1) (off := 196) (tgt := 236) hx hb d_L_law_40 c40_1 (by omega) (by omega) (by decide) rfl (by decide) ?_
            have hab := (b_combine g z1 z2 z3 z4).1
            have hbn := (b_combine g z1 z2 z3 z4).2
            refine lv_aload_n hx hb d_L_law_236 rfl (lv_at hl 1 rfl) ?_
            refine lv_aload_n hx hb d_L_law_237 rfl (lv_at hl 0 rfl) ?_
            refine lv_iload hx hb d_L_law_238 (lv_at hl 4 rfl) ?_
            refine wz_iconst (n := 1) hx hb d_L_law_240 ?_
            refine wz_iadd hx hb d_L_law_241 rfl ?_
            refine va_sld (i := iI ((i : Int) + 1)) hx hb hX hbl hbA hw.2.2.2.1 (iI_in (by omega) (by omega) (by omega)) d_L_law_242 ?_
            refine lv_topi (fun x242 ex242 => ?_)
            obtain rfl : x242 = iI (z1) := ex242.trans (by rw [iI_cl (by omega) (by omega), show ((i : Int) + 1).toNat = i + 1 by omega]; exact e1)
            refine lv_aload_n hx hb d_L_law_243 rfl (lv_at hl 0 rfl) ?_
            refine lv_iload hx hb d_L_law_244 (lv_at hl 4 rfl) ?_
            refine wz_iconst (n := 2) hx hb d_L_law_246 ?_
            refine wz_iadd hx hb d_L_law_247 rfl ?_
            refine va_sld (i := iI ((i : Int) + 2)) hx hb hX hbl hbA hw.2.2.2.1 (iI_in (by omega) (by omega) (by omega)) d_L_law_248 ?_
            refine lv_topi (fun x248 ex248 => ?_)
            obtain rfl : x248 = iI (z2) := ex248.trans (by rw [iI_cl (by omega) (by omega), show ((i : Int) + 2).toNat = i + 2 by omega]; exact e2)
            refine lv_aload_n hx hb d_L_law_249 rfl (lv_at hl 0 rfl) ?_
            refine lv_iload hx hb d_L_law_250 (lv_at hl 4 rfl) ?_
            refine wz_iconst (n := 3) hx hb d_L_law_252 ?_
            refine wz_iadd hx hb d_L_law_253 rfl ?_
            refine va_sld (i := iI ((i : Int) + 3)) hx hb hX hbl hbA hw.2.2.2.1 (iI_in (by omega) (by omega) (by omega)) d_L_law_254 ?_
            refine lv_topi (fun x254 ex254 => ?_)
            obtain rfl : x254 = iI (z3) := ex254.trans (by rw [iI_cl (by omega) (by omega), show ((i : Int) + 3).toNat = i + 3 by omega]; exact e3)
            refine lv_aload_n hx hb d_L_law_255 rfl (lv_at hl 0 rfl) ?_
            refine lv_iload hx hb d_L_law_256 (lv_at hl 4 rfl) ?_
            refine wz_iconst (n := 4) hx hb d_L_law_258 ?_
            refine wz_iadd hx hb d_L_law_259 rfl ?_
            refine va_sld (i := iI ((i : Int) + 4)) hx hb hX hbl hbA hw.2.2.2.1 (iI_in (by omega) (by omega) (by omega)) d_L_law_260 ?_
            refine lv_topi (fun x260 ex260 => ?_)
            obtain rfl : x260 = iI (z4) := ex260.trans (by rw [iI_cl (by omega) (by omega), show ((i : Int) + 4).toNat = i + 4 by omega]; exact e4)
            refine lv_aload_n hx hb d_L_law_261 rfl (lv_at hl 3 rfl) ?_
            refine px_calli hw (vx_runSX (As := [.ref (ad (0)), .int (iI (z1)), .int (iI (z2)), .int (iI (z3)), .int (iI (z4)), .ref (ad (104))]) (rest := []) ⟨hx, hb, hml, hown, hq⟩ (c_L_combine l D ty ad M F23 H.size hl0 (by omega) g hDk hok z1 hz1 z2 hz2 z3 hz3 z4 hz4 _ h104) (vx_cwSW 6 hq (gSW ml_L_65 st_L_combine in_L m_L_combine) rfl rfl rfl (by decide +kernel) ⟨Nat.le_of_ble_eq_true rfl, Nat.le_of_ble_eq_true rfl⟩) (px_preS hw hxk) rfl rfl hl.1 rfl (lv_room (Nat.le_of_ble_eq_true rfl)) d_L_law_262 ⟨by show cn + 8 ≤ 601024; omega, by show sn + 48 ≤ 7293034; omega⟩) (fun _ _ _ _ _ _ hp9 => hp9.elim) ?_
            intro r262 F262 H locs q262 hw
            obtain ⟨er262, hDk, ⟨o1, h104, ho1⟩, hf262⟩ := q262
            subst er262
            have hMo_at_262 : Mo ty ad F262 (co) (g) := Mo.fr hMo (fun y8 h7 h8 => hf262 (y8) (by omega) (by omega))
            refine lv_istore (lv' := [(5, .int (iI ((o_combine g z1 z2 z3 z4).1))), (0, .ref (b)), (1, .ref (ad (0))), (2, .ref (ad (98))), (3, .ref (ad (104))), (4, .int (iI ((i : Int))))]) hx hb d_L_law_265 hl (by decide) rfl (fun ls hl => ?_)
            refine lv_aload_n hx hb d_L_law_267 rfl (lv_at hl 3 rfl) ?_
            refine lv_aload_n hx hb d_L_law_268 rfl (lv_at hl 1 rfl) ?_
            refine lv_iload hx hb d_L_law_269 (lv_at hl 5 rfl) ?_
            refine wz_iconst (n := 1) hx hb d_L_law_271 ?_
            refine wz_iadd hx hb d_L_law_272 rfl ?_
            refine va_sld (i := iI ((i : Int) + 1)) hx hb hX hbl hbA hw.2.2.2.1 (iI_in (by omega) (by omega) (by omega)) d_L_law_273 ?_
            refine lv_topi (fun x273 ex273 => ?_)
            obtain rfl : x273 = iI (z1) := ex273.trans (by rw [iI_cl (by omega) (by omega), show ((i : Int) + 1).toNat = i + 1 by omega]; exact e1)
            refine lv_aload_n hx hb d_L_law_274 rfl (lv_at hl 1 rfl) ?_
            refine lv_iload hx hb d_L_law_275 (lv_at hl 5 rfl) ?_
            refine wz_iconst (n := 2) hx hb d_L_law_277 ?_
            refine wz_iadd hx hb d_L_law_278 rfl ?_
            refine va_sld (i := iI ((i : Int) + 2)) hx hb hX hbl hbA hw.2.2.2.1 (iI_in (by omega) (by omega) (by omega)) d_L_law_279 ?_
            refine lv_topi (fun x279 ex279 => ?_)
            obtain rfl : x279 = iI (z2) := ex279.trans (by rw [iI_cl (by omega) (by omega), show ((i : Int) + 2).toNat = i + 2 by omega]; exact e2)
            refine lv_aload_n hx hb d_L_law_280 rfl (lv_at hl 1 rfl) ?_
            refine lv_iload hx hb d_L_law_281 (lv_at hl 5 rfl) ?_
            refine wz_iconst (n := 3) hx hb d_L_law_283 ?_
            refine wz_iadd hx hb d_L_law_284 rfl ?_
            refine va_sld (i := iI ((i : Int) + 3)) hx hb hX hbl hbA hw.2.2.2.1 (iI_in (by omega) (by omega) (by omega)) d_L_law_285 ?_
            refine lv_topi (fun x285 ex285 => ?_)
            obtain rfl : x285 = iI (z3) := ex285.trans (by rw [iI_cl (by omega) (by omega), show ((i : Int) + 3).toNat = i + 3 by omega]; exact e3)
            refine lv_aload_n hx hb d_L_law_286 rfl (lv_at hl 1 rfl) ?_
            refine lv_iload hx hb d_L_law_287 (lv_at hl 5 rfl) ?_
            refine wz_iconst (n := 4) hx hb d_L_law_289 ?_
            refine wz_iadd hx hb d_L_law_290 rfl ?_
            refine va_sld (i := iI ((i : Int) + 4)) hx hb hX hbl hbA hw.2.2.2.1 (iI_in (by omega) (by omega) (by omega)) d_L_law_291 ?_
            refine lv_topi (fun x291 ex291 => ?_)
            obtain rfl : x291 = iI (z4) := ex291.trans (by rw [iI_cl (by omega) (by omega), show ((i : Int) + 4).toNat = i + 4 by omega]; exact e4)
            refine pw_calli hw (va_runV (As := [.int (iI (z1)), .int (iI (z2)), .int (iI (z3)), .int (iI (z4))]) (rest := []) ⟨hx, hb, hml, hown, hq⟩ (c_M_combine l D ty ad M F262 H.size (by omega) g (co) hMo_at_262 hok z1 hz1 z2 hz2 z3 hz3 z4 hz4) (cwV 4 hq (gV ml_L_68 im_M_combine se_M_combine in_M m_M_combine) rfl rfl rfl (by decide +kernel) ⟨Nat.le_of_ble_eq_true rfl, Nat.le_of_ble_eq_true rfl⟩) (pw_preV hw (by omega) hMo_at_262.1 rfl) rfl rfl hl.1 rfl (lv_room (Nat.le_of_ble_eq_true rfl)) d_L_law_292 ⟨by show cn + 8 ≤ 601024; omega, by show sn + 48 ≤ 7293034; omega⟩) (fun r292 F292 H locs q292 hw => ?_)
            obtain ⟨er292, hMo, hf292⟩ := q292
            subst er292
            have hDk_at_292 : Dk ty ad F292 ((o_combine g z1 z2 z3 z4).2.2) := Dk.fr hDk (fun y8 h8 => hf292 (y8) (by omega))
            have h104_at_292 : F292 (104) = .inl (ty 3, 1, .inr (.inl (o1))) := (hf292 (104) (by omega)).trans h104
            refine lv_istore (lv' := [(6, .int (iI ((o_combine g z1 z2 z3 z4).2.1))), (5, .int (iI ((o_combine g z1 z2 z3 z4).1))), (0, .ref (b)), (1, .ref (ad (0))), (2, .ref (ad (98))), (3, .ref (ad (104))), (4, .int (iI ((i : Int))))]) hx hb d_L_law_295 hl (by decide) rfl (fun ls hl => ?_)
            refine lv_aload_n hx hb d_L_law_297 rfl (lv_at hl 4 rfl) ?_
            refine pw_calli hw (va_runV (As := []) (rest := []) ⟨hx, hb, hml, hown, hq⟩ (c_M_thrown l D ty ad M F292 H.size (by omega) _ _ _ hMo.1) (cwV 0 hq (gV ml_L_61 im_M_thrown se_M_thrown in_M m_M_thrown) rfl rfl rfl (by decide +kernel) ⟨Nat.le_of_ble_eq_true rfl, Nat.le_of_ble_eq_true rfl⟩) (pw_preV hw (by omega) hMo.1 rfl) rfl rfl hl.1 rfl (lv_room (Nat.le_of_ble_eq_true rfl)) d_L_law_298 ⟨by show cn + 8 ≤ 601024; omega, by show sn + 48 ≤ 7293034; omega⟩) (fun r298 F298 H locs q298 hw => ?_)
            obtain ⟨er298, eF298⟩ := q298
            rw [eF298] at hw
            clear eF298
            subst er298
            refine lv_iload hx hb d_L_law_301 (lv_at hl 1 rfl) ?_
            refine wz_icmp_eq (tgt := 308) hx hb d_L_law_303 (by decide) (by omega) (by omega) (by omega) (by omega) (fun c303 => ?_) (fun c303 => ?_)
            · refine lv_iload hx hb d_L_law_308 (lv_at hl 1 rfl) ?_
              refine wz_if_ne (tgt := 325) hx hb d_L_law_310 (by decide) (by omega) (by omega) (fun c310 => ?_) (fun c310 => ?_)
              · refine lv_goto (tgt := 991) hx hb d_L_law_325 (by decide) ?_
                refine wz_iinc (z := ((i + 6 : Nat) : Int)) (lv' := [(4, .int (iI (((i + 6 : Nat) : Int)))), (6, .int (iI ((o_combine g z1 z2 z3 z4).2.1))), (5, .int (iI ((o_combine g z1 z2 z3 z4).1))), (0, .ref (b)), (1, .ref (ad (0))), (2, .ref (ad (98))), (3, .ref (ad (104)))]) hx hb d_L_law_991 hl (k := 6) rfl (by omega) (by decide) rfl (fun ls hl => ?_)
                refine lv_goto (tgt := 23) hx hb d_L_law_994 (by decide) ?_
                exact ih23 (i + 6) _ _ ((o_combine g z1 z2 z3 z4).2.2) ((o_combine g z1 z2 z3 z4).1) _ _ _ _ ls (by omega) (by omega) (by omega) (by omega) (hok.combine _ _ _ _) hDk_at_292 hMo h104_at_292 hw (lv_sub hl [3, 4, 5, 6, 0] rfl)
              · refine lv_aload_n hx hb d_L_law_313 rfl (lv_at hl 5 rfl) ?_
                refine wz_iconst (n := 0) hx hb d_L_law_314 ?_
                refine pw_lald (k := 0) hx hb hw 3 (by omega) h104_at_292 rfl (iI_in (by omega) (by omega) (by omega)) ((iI_cl (by omega) (by omega)).trans (by omega)) d_L_law_315 ?_
                refine lv_topl (fun x315 ex315 => ?_)
                obtain rfl : x315 = iL ((o_combine g z1 z2 z3 z4).2.1) := ex315.trans (ho1 (by omega))
                refine lv_iload hx hb d_L_law_316 (lv_at hl 0 rfl) ?_
                refine wz_i2l hx hb d_L_law_318 (hbn.1) (hbn.2) ?_
                refine wz_lcmp_eq (tgt := 325) hx hb d_L_law_319 d_L_law_320 (by decide) (by omega) (by omega) (by omega) (by omega) (fun c319 => ?_) (fun c319 => ?_)
                · refine lv_goto (tgt := 991) hx hb d_L_law_325 (by decide) ?_
                  refine wz_iinc (z := ((i + 6 : Nat) : Int)) (lv' := [(4, .int (iI (((i + 6 : Nat) : Int)))), (6, .int (iI ((o_combine g z1 z2 z3 z4).2.1))), (5, .int (iI ((o_combine g z1 z2 z3 z4).1))), (0, .ref (b)), (1, .ref (ad (0))), (2, .ref (ad (98))), (3, .ref (ad (104)))]) hx hb d_L_law_991 hl (k := 6) rfl (by omega) (by decide) rfl (fun ls hl => ?_)
                  refine lv_goto (tgt := 23) hx hb d_L_law_994 (by decide) ?_
                  exact ih23 (i + 6) _ _ ((o_combine g z1 z2 z3 z4).2.2) ((o_combine g z1 z2 z3 z4).1) _ _ _ _ ls (by omega) (by omega) (by omega) (by omega) (hok.combine _ _ _ _) hDk_at_292 hMo h104_at_292 hw (lv_sub hl [3, 4, 5, 6, 0] rfl)
                · exact absurd rfl c319
            · exact absurd rfl c303
          · skip
            by_cases c40_2 : kk = 2
            · refine wz_tabIn (k := 2) (off := 288) (tgt := 328) hx hb d_L_law_40 c40_2 (by omega) (by omega) (by decide) rfl (by decide) ?_
              have hab := (b_change g z1 z2 z3).1
              have hbn := (b_change g z1 z2 z3).2
              refine lv_aload_n hx hb d_L_law_328 rfl (lv_at hl 1 rfl) ?_
              refine lv_aload_n hx hb d_L_law_329 rfl (lv_at hl 0 rfl) ?_
              refine lv_iload hx hb d_L_law_330 (lv_at hl 4 rfl) ?_
              refine wz_iconst (n := 1) hx hb d_L_law_332 ?_
              refine wz_iadd hx hb d_L_law_333 rfl ?_
              refine va_sld (i := iI ((i : Int) + 1)) hx hb hX hbl hbA hw.2.2.2.1 (iI_in (by omega) (by omega) (by omega)) d_L_law_334 ?_
              refine lv_topi (fun x334 ex334 => ?_)
              obtain rfl : x334 = iI (z1) := ex334.trans (by rw [iI_cl (by omega) (by omega), show ((i : Int) + 1).toNat = i + 1 by omega]; exact e1)
              refine lv_aload_n hx hb d_L_law_335 rfl (lv_at hl 0 rfl) ?_
              refine lv_iload hx hb d_L_law_336 (lv_at hl 4 rfl) ?_
              refine wz_iconst (n := 2) hx hb d_L_law_338 ?_
              refine wz_iadd hx hb d_L_law_339 rfl ?_
              refine va_sld (i := iI ((i : Int) + 2)) hx hb hX hbl hbA hw.2.2.2.1 (iI_in (by omega) (by omega) (by omega)) d_L_law_340 ?_
              refine lv_topi (fun x340 ex340 => ?_)
              obtain rfl : x340 = iI (z2) := ex340.trans (by rw [iI_cl (by omega) (by omega), show ((i : Int) + 2).toNat = i + 2 by omega]; exact e2)
              refine lv_aload_n hx hb d_L_law_341 rfl (lv_at hl 0 rfl) ?_
              refine lv_iload hx hb d_L_law_342 (lv_at hl 4 rfl) ?_
              refine wz_iconst (n := 3) hx hb d_L_law_344 ?_
              refine wz_iadd hx hb d_L_law_345 rfl ?_
              refine va_sld (i := iI ((i : Int) + 3)) hx hb hX hbl hbA hw.2.2.2.1 (iI_in (by omega) (by omega) (by omega)) d_L_law_346 ?_
              refine lv_topi (fun x346 ex346 => ?_)
              obtain rfl : x346 = iI (z3) := ex346.trans (by rw [iI_cl (by omega) (by omega), show ((i : Int) + 3).toNat = i + 3 by omega]; exact e3)
              refine lv_aload_n hx hb d_L_law_347 rfl (lv_at hl 3 rfl) ?_
              refine px_calli hw (vx_runSX (As := [.ref (ad (0)), .int (iI (z1)), .int (iI (z2)), .int (iI (z3)), .ref (ad (104))]) (rest := []) ⟨hx, hb, hml, hown, hq⟩ (c_L_change l D ty ad M F23 H.size hl0 (by omega) g hDk hok z1 hz1 z2 hz2 z3 hz3 _ h104) (vx_cwSW 5 hq (gSW ml_L_69 st_L_change in_L m_L_change) rfl rfl rfl (by decide +kernel) ⟨Nat.le_of_ble_eq_true rfl, Nat.le_of_ble_eq_true rfl⟩) (px_preS hw hxk) rfl rfl hl.1 rfl (lv_room (Nat.le_of_ble_eq_true rfl)) d_L_law_348 ⟨by show cn + 8 ≤ 601024; omega, by show sn + 48 ≤ 7293034; omega⟩) (fun _ _ _ _ _ _ hp9 => hp9.elim) ?_
              intro r348 F348 H locs q348 hw
              obtain ⟨er348, hDk, ⟨o1, h104, ho1⟩, hf348⟩ := q348
              subst er348
              have hMo_at_348 : Mo ty ad F348 (co) (g) := Mo.fr hMo (fun y8 h7 h8 => hf348 (y8) (by omega) (by omega))
              refine lv_istore (lv' := [(5, .int (iI ((o_change g z1 z2 z3).1))), (0, .ref (b)), (1, .ref (ad (0))), (2, .ref (ad (98))), (3, .ref (ad (104))), (4, .int (iI ((i : Int))))]) hx hb d_L_law_351 hl (by decide) rfl (fun ls hl => ?_)
              refine lv_aload_n hx hb d_L_law_353 rfl (lv_at hl 3 rfl) ?_
              refine lv_aload_n hx hb d_L_law_354 rfl (lv_at hl 1 rfl) ?_
              refine lv_iload hx hb d_L_law_355 (lv_at hl 5 rfl) ?_
              refine wz_iconst (n := 1) hx hb d_L_law_357 ?_
              refine wz_iadd hx hb d_L_law_358 rfl ?_
              refine va_sld (i := iI ((i : Int) + 1)) hx hb hX hbl hbA hw.2.2.2.1 (iI_in (by omega) (by omega) (by omega)) d_L_law_359 ?_
              refine lv_topi (fun x359 ex359 => ?_)
              obtain rfl : x359 = iI (z1) := ex359.trans (by rw [iI_cl (by omega) (by omega), show ((i : Int) + 1).toNat = i + 1 by omega]; exact e1)
              refine lv_aload_n hx hb d_L_law_360 rfl (lv_at hl 1 rfl) ?_
              refine lv_iload hx hb d_L_law_361 (lv_at hl 5 rfl) ?_
              refine wz_iconst (n := 2) hx hb d_L_law_363 ?_
              refine wz_iadd hx hb d_L_law_364 rfl ?_
              refine va_sld (i := iI ((i : Int) + 2)) hx hb hX hbl hbA hw.2.2.2.1 (iI_in (by omega) (by omega) (by omega)) d_L_law_365 ?_
              refine lv_topi (fun x365 ex365 => ?_)
              obtain rfl : x365 = iI (z2) := ex365.trans (by rw [iI_cl (by omega) (by omega), show ((i : Int) + 2).toNat = i + 2 by omega]; exact e2)
              refine lv_aload_n hx hb d_L_law_366 rfl (lv_at hl 1 rfl) ?_
              refine lv_iload hx hb d_L_law_367 (lv_at hl 5 rfl) ?_
              refine wz_iconst (n := 3) hx hb d_L_law_369 ?_
              refine wz_iadd hx hb d_L_law_370 rfl ?_
              refine va_sld (i := iI ((i : Int) + 3)) hx hb hX hbl hbA hw.2.2.2.1 (iI_in (by omega) (by omega) (by omega)) d_L_law_371 ?_
              refine lv_topi (fun x371 ex371 => ?_)
              obtain rfl : x371 = iI (z3) := ex371.trans (by rw [iI_cl (by omega) (by omega), show ((i : Int) + 3).toNat = i + 3 by omega]; exact e3)
              refine pw_calli hw (va_runV (As := [.int (iI (z1)), .int (iI (z2)), .int (iI (z3))]) (rest := []) ⟨hx, hb, hml, hown, hq⟩ (c_M_change l D ty ad M F348 H.size (by omega) g (co) hMo_at_348 hok z1 hz1 z2 hz2 z3 hz3) (cwV 3 hq (gV ml_L_72 im_M_change se_M_change in_M m_M_change) rfl rfl rfl (by decide +kernel) ⟨Nat.le_of_ble_eq_true rfl, Nat.le_of_ble_eq_true rfl⟩) (pw_preV hw (by omega) hMo_at_348.1 rfl) rfl rfl hl.1 rfl (lv_room (Nat.le_of_ble_eq_true rfl)) d_L_law_372 ⟨by show cn + 8 ≤ 601024; omega, by show sn + 48 ≤ 7293034; omega⟩) (fun r372 F372 H locs q372 hw => ?_)
              obtain ⟨er372, hMo, hf372⟩ := q372
              subst er372
              have hDk_at_372 : Dk ty ad F372 ((o_change g z1 z2 z3).2.2) := Dk.fr hDk (fun y8 h8 => hf372 (y8) (by omega))
              have h104_at_372 : F372 (104) = .inl (ty 3, 1, .inr (.inl (o1))) := (hf372 (104) (by omega)).trans h104
              refine lv_istore (lv' := [(6, .int (iI ((o_change g z1 z2 z3).2.1))), (5, .int (iI ((o_change g z1 z2 z3).1))), (0, .ref (b)), (1, .ref (ad (0))), (2, .ref (ad (98))), (3, .ref (ad (104))), (4, .int (iI ((i : Int))))]) hx hb d_L_law_375 hl (by decide) rfl (fun ls hl => ?_)
              refine lv_aload_n hx hb d_L_law_377 rfl (lv_at hl 4 rfl) ?_
              refine pw_calli hw (va_runV (As := []) (rest := []) ⟨hx, hb, hml, hown, hq⟩ (c_M_thrown l D ty ad M F372 H.size (by omega) _ _ _ hMo.1) (cwV 0 hq (gV ml_L_61 im_M_thrown se_M_thrown in_M m_M_thrown) rfl rfl rfl (by decide +kernel) ⟨Nat.le_of_ble_eq_true rfl, Nat.le_of_ble_eq_true rfl⟩) (pw_preV hw (by omega) hMo.1 rfl) rfl rfl hl.1 rfl (lv_room (Nat.le_of_ble_eq_true rfl)) d_L_law_378 ⟨by show cn + 8 ≤ 601024; omega, by show sn + 48 ≤ 7293034; omega⟩) (fun r378 F378 H locs q378 hw => ?_)
              obtain ⟨er378, eF378⟩ := q378
              rw [eF378] at hw
              clear eF378
              subst er378
              refine lv_iload hx hb d_L_law_381 (lv_at hl 1 rfl) ?_
              refine wz_icmp_eq (tgt := 388) hx hb d_L_law_383 (by decide) (by omega) (by omega) (by omega) (by omega) (fun c383 => ?_) (fun c383 => ?_)
              · refine lv_iload hx hb d_L_law_388 (lv_at hl 1 rfl) ?_
                refine wz_if_ne (tgt := 405) hx hb d_L_law_390 (by decide) (by omega) (by omega) (fun c390 => ?_) (fun c390 => ?_)
                · refine lv_goto (tgt := 991) hx hb d_L_law_405 (by decide) ?_
                  refine wz_iinc (z := ((i + 6 : Nat) : Int)) (lv' := [(4, .int (iI (((i + 6 : Nat) : Int)))), (6, .int (iI ((o_change g z1 z2 z3).2.1))), (5, .int (iI ((o_change g z1 z2 z3).1))), (0, .ref (b)), (1, .ref (ad (0))), (2, .ref (ad (98))), (3, .ref (ad (104)))]) hx hb d_L_law_991 hl (k := 6) rfl (by omega) (by decide) rfl (fun ls hl => ?_)
                  refine lv_goto (tgt := 23) hx hb d_L_law_994 (by decide) ?_
                  exact ih23 (i + 6) _ _ ((o_change g z1 z2 z3).2.2) ((o_change g z1 z2 z3).1) _ _ _ _ ls (by omega) (by omega) (by omega) (by omega) (hok.change _ _ _) hDk_at_372 hMo h104_at_372 hw (lv_sub hl [3, 4, 5, 6, 0] rfl)
                · refine lv_aload_n hx hb d_L_law_393 rfl (lv_at hl 5 rfl) ?_
                  refine wz_iconst (n := 0) hx hb d_L_law_394 ?_
                  refine pw_lald (k := 0) hx hb hw 3 (by omega) h104_at_372 rfl (iI_in (by omega) (by omega) (by omega)) ((iI_cl (by omega) (by omega)).trans (by omega)) d_L_law_395 ?_
                  refine lv_topl (fun x395 ex395 => ?_)
                  obtain rfl : x395 = iL ((o_change g z1 z2 z3).2.1) := ex395.trans (ho1 (by omega))
                  refine lv_iload hx hb d_L_law_396 (lv_at hl 0 rfl) ?_
                  refine wz_i2l hx hb d_L_law_398 (hbn.1) (hbn.2) ?_
                  refine wz_lcmp_eq (tgt := 405) hx hb d_L_law_399 d_L_law_400 (by decide) (by omega) (by omega) (by omega) (by omega) (fun c399 => ?_) (fun c399 => ?_)
                  · refine lv_goto (tgt := 991) hx hb d_L_law_405 (by decide) ?_
                    refine wz_iinc (z := ((i + 6 : Nat) : Int)) (lv' := [(4, .int (iI (((i + 6 : Nat) : Int)))), (6, .int (iI ((o_change g z1 z2 z3).2.1))), (5, .int (iI ((o_change g z1 z2 z3).1))), (0, .ref (b)), (1, .ref (ad (0))), (2, .ref (ad (98))), (3, .ref (ad (104)))]) hx hb d_L_law_991 hl (k := 6) rfl (by omega) (by decide) rfl (fun ls hl => ?_)
                    refine lv_goto (tgt := 23) hx hb d_L_law_994 (by decide) ?_
                    exact ih23 (i + 6) _ _ ((o_change g z1 z2 z3).2.2) ((o_change g z1 z2 z3).1) _ _ _ _ ls (by omega) (by omega) (by omega) (by omega) (hok.change _ _ _) hDk_at_372 hMo h104_at_372 hw (lv_sub hl [3, 4, 5, 6, 0] rfl)
                  · exact absurd rfl c399
              · exact absurd rfl c383
            · skip
              by_cases c40_3 : kk = 3
              · refine wz_tabIn (k := 3) (off := 368) (tgt := 408) hx hb d_L_law_40 c40_3 (by omega) (by omega) (by decide) rfl (by decide) ?_
                have hab := (b_power g z1 z2 z3).1
                have hbn := (b_power g z1 z2 z3).2
                refine lv_aload_n hx hb d_L_law_408 rfl (lv_at hl 1 rfl) ?_
                refine lv_aload_n hx hb d_L_law_409 rfl (lv_at hl 0 rfl) ?_
                refine lv_iload hx hb d_L_law_410 (lv_at hl 4 rfl) ?_
                refine wz_iconst (n := 1) hx hb d_L_law_412 ?_
                refine wz_iadd hx hb d_L_law_413 rfl ?_
                refine va_sld (i := iI ((i : Int) + 1)) hx hb hX hbl hbA hw.2.2.2.1 (iI_in (by omega) (by omega) (by omega)) d_L_law_414 ?_
                refine lv_topi (fun x414 ex414 => ?_)
                obtain rfl : x414 = iI (z1) := ex414.trans (by rw [iI_cl (by omega) (by omega), show ((i : Int) + 1).toNat = i + 1 by omega]; exact e1)
                refine lv_aload_n hx hb d_L_law_415 rfl (lv_at hl 0 rfl) ?_
                refine lv_iload hx hb d_L_law_416 (lv_at hl 4 rfl) ?_
                refine wz_iconst (n := 2) hx hb d_L_law_418 ?_
                refine wz_iadd hx hb d_L_law_419 rfl ?_
                refine va_sld (i := iI ((i : Int) + 2)) hx hb hX hbl hbA hw.2.2.2.1 (iI_in (by omega) (by omega) (by omega)) d_L_law_420 ?_
                refine lv_topi (fun x420 ex420 => ?_)
                obtain rfl : x420 = iI (z2) := ex420.trans (by rw [iI_cl (by omega) (by omega), show ((i : Int) + 2).toNat = i + 2 by omega]; exact e2)
                refine lv_aload_n hx hb d_L_law_421 rfl (lv_at hl 0 rfl) ?_
                refine lv_iload hx hb d_L_law_422 (lv_at hl 4 rfl) ?_
                refine wz_iconst (n := 3) hx hb d_L_law_424 ?_
                refine wz_iadd hx hb d_L_law_425 rfl ?_
                refine va_sld (i := iI ((i : Int) + 3)) hx hb hX hbl hbA hw.2.2.2.1 (iI_in (by omega) (by omega) (by omega)) d_L_law_426 ?_
                refine lv_topi (fun x426 ex426 => ?_)
                obtain rfl : x426 = iI (z3) := ex426.trans (by rw [iI_cl (by omega) (by omega), show ((i : Int) + 3).toNat = i + 3 by omega]; exact e3)
                refine lv_aload_n hx hb d_L_law_427 rfl (lv_at hl 3 rfl) ?_
                refine px_calli hw (vx_runSX (As := [.ref (ad (0)), .int (iI (z1)), .int (iI (z2)), .int (iI (z3)), .ref (ad (104))]) (rest := []) ⟨hx, hb, hml, hown, hq⟩ (c_L_power l D ty ad M F23 H.size hl0 (by omega) g hDk hok z1 hz1 z2 hz2 z3 hz3 _ h104) (vx_cwSW 5 hq (gSW ml_L_73 st_L_power in_L m_L_power) rfl rfl rfl (by decide +kernel) ⟨Nat.le_of_ble_eq_true rfl, Nat.le_of_ble_eq_true rfl⟩) (px_preS hw hxk) rfl rfl hl.1 rfl (lv_room (Nat.le_of_ble_eq_true rfl)) d_L_law_428 ⟨by show cn + 8 ≤ 601024; omega, by show sn + 48 ≤ 7293034; omega⟩) (fun _ _ _ _ _ _ hp9 => hp9.elim) ?_
                intro r428 F428 H locs q428 hw
                obtain ⟨er428, hDk, ⟨o1, h104, ho1⟩, hf428⟩ := q428
                subst er428
                have hMo_at_428 : Mo ty ad F428 (co) (g) := Mo.fr hMo (fun y8 h7 h8 => hf428 (y8) (by omega) (by omega))
                refine lv_istore (lv' := [(5, .int (iI ((o_power g z1 z2 z3).1))), (0, .ref (b)), (1, .ref (ad (0))), (2, .ref (ad (98))), (3, .ref (ad (104))), (4, .int (iI ((i : Int))))]) hx hb d_L_law_431 hl (by decide) rfl (fun ls hl => ?_)
                refine lv_aload_n hx hb d_L_law_433 rfl (lv_at hl 3 rfl) ?_
                refine lv_aload_n hx hb d_L_law_434 rfl (lv_at hl 1 rfl) ?_
                refine lv_iload hx hb d_L_law_435 (lv_at hl 5 rfl) ?_
                refine wz_iconst (n := 1) hx hb d_L_law_437 ?_
                refine wz_iadd hx hb d_L_law_438 rfl ?_
                refine va_sld (i := iI ((i : Int) + 1)) hx hb hX hbl hbA hw.2.2.2.1 (iI_in (by omega) (by omega) (by omega)) d_L_law_439 ?_
                refine lv_topi (fun x439 ex439 => ?_)
                obtain rfl : x439 = iI (z1) := ex439.trans (by rw [iI_cl (by omega) (by omega), show ((i : Int) + 1).toNat = i + 1 by omega]; exact e1)
                refine lv_aload_n hx hb d_L_law_440 rfl (lv_at hl 1 rfl) ?_
                refine lv_iload hx hb d_L_law_441 (lv_at hl 5 rfl) ?_
                refine wz_iconst (n := 2) hx hb d_L_law_443 ?_
                refine wz_iadd hx hb d_L_law_444 rfl ?_
                refine va_sld (i := iI ((i : Int) + 2)) hx hb hX hbl hbA hw.2.2.2.1 (iI_in (by omega) (by omega) (by omega)) d_L_law_445 ?_
                refine lv_topi (fun x445 ex445 => ?_)
                obtain rfl : x445 = iI (z2) := ex445.trans (by rw [iI_cl (by omega) (by omega), show ((i : Int) + 2).toNat = i + 2 by omega]; exact e2)
                refine lv_aload_n hx hb d_L_law_446 rfl (lv_at hl 1 rfl) ?_
                refine lv_iload hx hb d_L_law_447 (lv_at hl 5 rfl) ?_
                refine wz_iconst (n := 3) hx hb d_L_law_449 ?_
                refine wz_iadd hx hb d_L_law_450 rfl ?_
                refine va_sld (i := iI ((i : Int) + 3)) hx hb hX hbl hbA hw.2.2.2.1 (iI_in (by omega) (by omega) (by omega)) d_L_law_451 ?_
                refine lv_topi (fun x451 ex451 => ?_)
                obtain rfl : x451 = iI (z3) := ex451.trans (by rw [iI_cl (by omega) (by omega), show ((i : Int) + 3).toNat = i + 3 by omega]; exact e3)
                refine pw_calli hw (va_runV (As := [.int (iI (z1)), .int (iI (z2)), .int (iI (z3))]) (rest := []) ⟨hx, hb, hml, hown, hq⟩ (c_M_power l D ty ad M F428 H.size (by omega) g (co) hMo_at_428 hok z1 hz1 z2 hz2 z3 hz3) (cwV 3 hq (gV ml_L_75 im_M_power se_M_power in_M m_M_power) rfl rfl rfl (by decide +kernel) ⟨Nat.le_of_ble_eq_true rfl, Nat.le_of_ble_eq_true rfl⟩) (pw_preV hw (by omega) hMo_at_428.1 rfl) rfl rfl hl.1 rfl (lv_room (Nat.le_of_ble_eq_true rfl)) d_L_law_452 ⟨by show cn + 8 ≤ 601024; omega, by show sn + 48 ≤ 7293034; omega⟩) (fun r452 F452 H locs q452 hw => ?_)
                obtain ⟨er452, hMo, hf452⟩ := q452
                subst er452
                have hDk_at_452 : Dk ty ad F452 ((o_power g z1 z2 z3).2.2) := Dk.fr hDk (fun y8 h8 => hf452 (y8) (by omega))
                have h104_at_452 : F452 (104) = .inl (ty 3, 1, .inr (.inl (o1))) := (hf452 (104) (by omega)).trans h104
                refine lv_istore (lv' := [(6, .int (iI ((o_power g z1 z2 z3).2.1))), (5, .int (iI ((o_power g z1 z2 z3).1))), (0, .ref (b)), (1, .ref (ad (0))), (2, .ref (ad (98))), (3, .ref (ad (104))), (4, .int (iI ((i : Int))))]) hx hb d_L_law_455 hl (by decide) rfl (fun ls hl => ?_)
                refine lv_aload_n hx hb d_L_law_457 rfl (lv_at hl 4 rfl) ?_
                refine pw_calli hw (va_runV (As := []) (rest := []) ⟨hx, hb, hml, hown, hq⟩ (c_M_thrown l D ty ad M F452 H.size (by omega) _ _ _ hMo.1) (cwV 0 hq (gV ml_L_61 im_M_thrown se_M_thrown in_M m_M_thrown) rfl rfl rfl (by decide +kernel) ⟨Nat.le_of_ble_eq_true rfl, Nat.le_of_ble_eq_true rfl⟩) (pw_preV hw (by omega) hMo.1 rfl) rfl rfl hl.1 rfl (lv_room (Nat.le_of_ble_eq_true rfl)) d_L_law_458 ⟨by show cn + 8 ≤ 601024; omega, by show sn + 48 ≤ 7293034; omega⟩) (fun r458 F458 H locs q458 hw => ?_)
                obtain ⟨er458, eF458⟩ := q458
                rw [eF458] at hw
                clear eF458
                subst er458
                refine lv_iload hx hb d_L_law_461 (lv_at hl 1 rfl) ?_
                refine wz_icmp_eq (tgt := 468) hx hb d_L_law_463 (by decide) (by omega) (by omega) (by omega) (by omega) (fun c463 => ?_) (fun c463 => ?_)
                · refine lv_iload hx hb d_L_law_468 (lv_at hl 1 rfl) ?_
                  refine wz_if_ne (tgt := 485) hx hb d_L_law_470 (by decide) (by omega) (by omega) (fun c470 => ?_) (fun c470 => ?_)
                  · refine lv_goto (tgt := 991) hx hb d_L_law_485 (by decide) ?_
                    refine wz_iinc (z := ((i + 6 : Nat) : Int)) (lv' := [(4, .int (iI (((i + 6 : Nat) : Int)))), (6, .int (iI ((o_power g z1 z2 z3).2.1))), (5, .int (iI ((o_power g z1 z2 z3).1))), (0, .ref (b)), (1, .ref (ad (0))), (2, .ref (ad (98))), (3, .ref (ad (104)))]) hx hb d_L_law_991 hl (k := 6) rfl (by omega) (by decide) rfl (fun ls hl => ?_)
                    refine lv_goto (tgt := 23) hx hb d_L_law_994 (by decide) ?_
                    exact ih23 (i + 6) _ _ ((o_power g z1 z2 z3).2.2) ((o_power g z1 z2 z3).1) _ _ _ _ ls (by omega) (by omega) (by omega) (by omega) (hok.power _ _ _) hDk_at_452 hMo h104_at_452 hw (lv_sub hl [3, 4, 5, 6, 0] rfl)
                  · refine lv_aload_n hx hb d_L_law_473 rfl (lv_at hl 5 rfl) ?_
                    refine wz_iconst (n := 0) hx hb d_L_law_474 ?_
                    refine pw_lald (k := 0) hx hb hw 3 (by omega) h104_at_452 rfl (iI_in (by omega) (by omega) (by omega)) ((iI_cl (by omega) (by omega)).trans (by omega)) d_L_law_475 ?_
                    refine lv_topl (fun x475 ex475 => ?_)
                    obtain rfl : x475 = iL ((o_power g z1 z2 z3).2.1) := ex475.trans (ho1 (by omega))
                    refine lv_iload hx hb d_L_law_476 (lv_at hl 0 rfl) ?_
                    refine wz_i2l hx hb d_L_law_478 (hbn.1) (hbn.2) ?_
                    refine wz_lcmp_eq (tgt := 485) hx hb d_L_law_479 d_L_law_480 (by decide) (by omega) (by omega) (by omega) (by omega) (fun c479 => ?_) (fun c479 => ?_)
                    · refine lv_goto (tgt := 991) hx hb d_L_law_485 (by decide) ?_
                      refine wz_iinc (z := ((i + 6 : Nat) : Int)) (lv' := [(4, .int (iI (((i + 6 : Nat) : Int)))), (6, .int (iI ((o_power g z1 z2 z3).2.1))), (5, .int (iI ((o_power g z1 z2 z3).1))), (0, .ref (b)), (1, .ref (ad (0))), (2, .ref (ad (98))), (3, .ref (ad (104)))]) hx hb d_L_law_991 hl (k := 6) rfl (by omega) (by decide) rfl (fun ls hl => ?_)
                      refine lv_goto (tgt := 23) hx hb d_L_law_994 (by decide) ?_
                      exact ih23 (i + 6) _ _ ((o_power g z1 z2 z3).2.2) ((o_power g z1 z2 z3).1) _ _ _ _ ls (by omega) (by omega) (by omega) (by omega) (hok.power _ _ _) hDk_at_452 hMo h104_at_452 hw (lv_sub hl [3, 4, 5, 6, 0] rfl)
                    · exact absurd rfl c479
                · exact absurd rfl c463
              · skip
                by_cases c40_4 : kk = 4
                · refine wz_tabIn (k := 4) (off := 448) (tgt := 488) hx hb d_L_law_40 c40_4 (by omega) (by omega) (by decide) rfl (by decide) ?_
                  have hab := (b_order g z1 z2).1
                  have hbn := (b_order g z1 z2).2
                  refine lv_aload_n hx hb d_L_law_488 rfl (lv_at hl 1 rfl) ?_
                  refine lv_aload_n hx hb d_L_law_489 rfl (lv_at hl 0 rfl) ?_
                  refine lv_iload hx hb d_L_law_490 (lv_at hl 4 rfl) ?_
                  refine wz_iconst (n := 1) hx hb d_L_law_492 ?_
                  refine wz_iadd hx hb d_L_law_493 rfl ?_
                  refine va_sld (i := iI ((i : Int) + 1)) hx hb hX hbl hbA hw.2.2.2.1 (iI_in (by omega) (by omega) (by omega)) d_L_law_494 ?_
                  refine lv_topi (fun x494 ex494 => ?_)
                  obtain rfl : x494 = iI (z1) := ex494.trans (by rw [iI_cl (by omega) (by omega), show ((i : Int) + 1).toNat = i + 1 by omega]; exact e1)
                  refine lv_aload_n hx hb d_L_law_495 rfl (lv_at hl 0 rfl) ?_
                  refine lv_iload hx hb d_L_law_496 (lv_at hl 4 rfl) ?_
                  refine wz_iconst (n := 2) hx hb d_L_law_498 ?_
                  refine wz_iadd hx hb d_L_law_499 rfl ?_
                  refine va_sld (i := iI ((i : Int) + 2)) hx hb hX hbl hbA hw.2.2.2.1 (iI_in (by omega) (by omega) (by omega)) d_L_law_500 ?_
                  refine lv_topi (fun x500 ex500 => ?_)
                  obtain rfl : x500 = iI (z2) := ex500.trans (by rw [iI_cl (by omega) (by omega), show ((i : Int) + 2).toNat = i + 2 by omega]; exact e2)
                  refine lv_aload_n hx hb d_L_law_501 rfl (lv_at hl 3 rfl) ?_
                  refine px_calli hw (vx_runSX (As := [.ref (ad (0)), .int (iI (z1)), .int (iI (z2)), .ref (ad (104))]) (rest := []) ⟨hx, hb, hml, hown, hq⟩ (c_L_order l D ty ad M F23 H.size hl0 (by omega) g hDk hok z1 hz1 z2 hz2 _ h104) (vx_cwSW 4 hq (gSW ml_L_76 st_L_order in_L m_L_order) rfl rfl rfl (by decide +kernel) ⟨Nat.le_of_ble_eq_true rfl, Nat.le_of_ble_eq_true rfl⟩) (px_preS hw hxk) rfl rfl hl.1 rfl (lv_room (Nat.le_of_ble_eq_true rfl)) d_L_law_502 ⟨by show cn + 8 ≤ 601024; omega, by show sn + 48 ≤ 7293034; omega⟩) (fun _ _ _ _ _ _ hp9 => hp9.elim) ?_
                  intro r502 F502 H locs q502 hw
                  obtain ⟨er502, hDk, ⟨o1, h104, ho1⟩, hf502⟩ := q502
                  subst er502
                  have hMo_at_502 : Mo ty ad F502 (co) (g) := Mo.fr hMo (fun y8 h7 h8 => hf502 (y8) (by omega) (by omega))
                  refine lv_istore (lv' := [(5, .int (iI ((o_order g z1 z2).1))), (0, .ref (b)), (1, .ref (ad (0))), (2, .ref (ad (98))), (3, .ref (ad (104))), (4, .int (iI ((i : Int))))]) hx hb d_L_law_505 hl (by decide) rfl (fun ls hl => ?_)
                  refine lv_aload_n hx hb d_L_law_507 rfl (lv_at hl 3 rfl) ?_
                  refine lv_aload_n hx hb d_L_law_508 rfl (lv_at hl 1 rfl) ?_
                  refine lv_iload hx hb d_L_law_509 (lv_at hl 5 rfl) ?_
                  refine wz_iconst (n := 1) hx hb d_L_law_511 ?_
                  refine wz_iadd hx hb d_L_law_512 rfl ?_
                  refine va_sld (i := iI ((i : Int) + 1)) hx hb hX hbl hbA hw.2.2.2.1 (iI_in (by omega) (by omega) (by omega)) d_L_law_513 ?_
                  refine lv_topi (fun x513 ex513 => ?_)
                  obtain rfl : x513 = iI (z1) := ex513.trans (by rw [iI_cl (by omega) (by omega), show ((i : Int) + 1).toNat = i + 1 by omega]; exact e1)
                  refine lv_aload_n hx hb d_L_law_514 rfl (lv_at hl 1 rfl) ?_
                  refine lv_iload hx hb d_L_law_515 (lv_at hl 5 rfl) ?_
                  refine wz_iconst (n := 2) hx hb d_L_law_517 ?_
                  refine wz_iadd hx hb d_L_law_518 rfl ?_
                  refine va_sld (i := iI ((i : Int) + 2)) hx hb hX hbl hbA hw.2.2.2.1 (iI_in (by omega) (by omega) (by omega)) d_L_law_519 ?_
                  refine lv_topi (fun x519 ex519 => ?_)
                  obtain rfl : x519 = iI (z2) := ex519.trans (by rw [iI_cl (by omega) (by omega), show ((i : Int) + 2).toNat = i + 2 by omega]; exact e2)
                  refine pw_calli hw (va_runV (As := [.int (iI (z1)), .int (iI (z2))]) (rest := []) ⟨hx, hb, hml, hown, hq⟩ (c_M_order l D ty ad M F502 H.size (by omega) g (co) hMo_at_502 hok z1 hz1 z2 hz2) (cwV 2 hq (gV ml_L_79 im_M_order se_M_order in_M m_M_order) rfl rfl rfl (by decide +kernel) ⟨Nat.le_of_ble_eq_true rfl, Nat.le_of_ble_eq_true rfl⟩) (pw_preV hw (by omega) hMo_at_502.1 rfl) rfl rfl hl.1 rfl (lv_room (Nat.le_of_ble_eq_true rfl)) d_L_law_520 ⟨by show cn + 8 ≤ 601024; omega, by show sn + 48 ≤ 7293034; omega⟩) (fun r520 F520 H locs q520 hw => ?_)
                  obtain ⟨er520, hMo, hf520⟩ := q520
                  subst er520
                  have hDk_at_520 : Dk ty ad F520 ((o_order g z1 z2).2.2) := Dk.fr hDk (fun y8 h8 => hf520 (y8) (by omega))
                  have h104_at_520 : F520 (104) = .inl (ty 3, 1, .inr (.inl (o1))) := (hf520 (104) (by omega)).trans h104
                  refine lv_istore (lv' := [(6, .int (iI ((o_order g z1 z2).2.1))), (5, .int (iI ((o_order g z1 z2).1))), (0, .ref (b)), (1, .ref (ad (0))), (2, .ref (ad (98))), (3, .ref (ad (104))), (4, .int (iI ((i : Int))))]) hx hb d_L_law_523 hl (by decide) rfl (fun ls hl => ?_)
                  refine lv_aload_n hx hb d_L_law_525 rfl (lv_at hl 4 rfl) ?_
                  refine pw_calli hw (va_runV (As := []) (rest := []) ⟨hx, hb, hml, hown, hq⟩ (c_M_thrown l D ty ad M F520 H.size (by omega) _ _ _ hMo.1) (cwV 0 hq (gV ml_L_61 im_M_thrown se_M_thrown in_M m_M_thrown) rfl rfl rfl (by decide +kernel) ⟨Nat.le_of_ble_eq_true rfl, Nat.le_of_ble_eq_true rfl⟩) (pw_preV hw (by omega) hMo.1 rfl) rfl rfl hl.1 rfl (lv_room (Nat.le_of_ble_eq_true rfl)) d_L_law_526 ⟨by show cn + 8 ≤ 601024; omega, by show sn + 48 ≤ 7293034; omega⟩) (fun r526 F526 H locs q526 hw => ?_)
                  obtain ⟨er526, eF526⟩ := q526
                  rw [eF526] at hw
                  clear eF526
                  subst er526
                  refine lv_iload hx hb d_L_law_529 (lv_at hl 1 rfl) ?_
                  refine wz_icmp_eq (tgt := 536) hx hb d_L_law_531 (by decide) (by omega) (by omega) (by omega) (by omega) (fun c531 => ?_) (fun c531 => ?_)
                  · refine lv_iload hx hb d_L_law_536 (lv_at hl 1 rfl) ?_
                    refine wz_if_ne (tgt := 553) hx hb d_L_law_538 (by decide) (by omega) (by omega) (fun c538 => ?_) (fun c538 => ?_)
                    · refine lv_goto (tgt := 991) hx hb d_L_law_553 (by decide) ?_
                      refine wz_iinc (z := ((i + 6 : Nat) : Int)) (lv' := [(4, .int (iI (((i + 6 : Nat) : Int)))), (6, .int (iI ((o_order g z1 z2).2.1))), (5, .int (iI ((o_order g z1 z2).1))), (0, .ref (b)), (1, .ref (ad (0))), (2, .ref (ad (98))), (3, .ref (ad (104)))]) hx hb d_L_law_991 hl (k := 6) rfl (by omega) (by decide) rfl (fun ls hl => ?_)
                      refine lv_goto (tgt := 23) hx hb d_L_law_994 (by decide) ?_
                      exact ih23 (i + 6) _ _ ((o_order g z1 z2).2.2) ((o_order g z1 z2).1) _ _ _ _ ls (by omega) (by omega) (by omega) (by omega) (hok.order _ _) hDk_at_520 hMo h104_at_520 hw (lv_sub hl [3, 4, 5, 6, 0] rfl)
                    · refine lv_aload_n hx hb d_L_law_541 rfl (lv_at hl 5 rfl) ?_
                      refine wz_iconst (n := 0) hx hb d_L_law_542 ?_
                      refine pw_lald (k := 0) hx hb hw 3 (by omega) h104_at_520 rfl (iI_in (by omega) (by omega) (by omega)) ((iI_cl (by omega) (by omega)).trans (by omega)) d_L_law_543 ?_
                      refine lv_topl (fun x543 ex543 => ?_)
                      obtain rfl : x543 = iL ((o_order g z1 z2).2.1) := ex543.trans (ho1 (by omega))
                      refine lv_iload hx hb d_L_law_544 (lv_at hl 0 rfl) ?_
                      refine wz_i2l hx hb d_L_law_546 (hbn.1) (hbn.2) ?_
                      refine wz_lcmp_eq (tgt := 553) hx hb d_L_law_547 d_L_law_548 (by decide) (by omega) (by omega) (by omega) (by omega) (fun c547 => ?_) (fun c547 => ?_)
                      · refine lv_goto (tgt := 991) hx hb d_L_law_553 (by decide) ?_
                        refine wz_iinc (z := ((i + 6 : Nat) : Int)) (lv' := [(4, .int (iI (((i + 6 : Nat) : Int)))), (6, .int (iI ((o_order g z1 z2).2.1))), (5, .int (iI ((o_order g z1 z2).1))), (0, .ref (b)), (1, .ref (ad (0))), (2, .ref (ad (98))), (3, .ref (ad (104)))]) hx hb d_L_law_991 hl (k := 6) rfl (by omega) (by decide) rfl (fun ls hl => ?_)
                        refine lv_goto (tgt := 23) hx hb d_L_law_994 (by decide) ?_
                        exact ih23 (i + 6) _ _ ((o_order g z1 z2).2.2) ((o_order g z1 z2).1) _ _ _ _ ls (by omega) (by omega) (by omega) (by omega) (hok.order _ _) hDk_at_520 hMo h104_at_520 hw (lv_sub hl [3, 4, 5, 6, 0] rfl)
                      · exact absurd rfl c547
                  · exact absurd rfl c531
                · skip
                  by_cases c40_5 : kk = 5
                  · refine wz_tabIn (k := 5) (off := 516) (tgt := 556) hx hb d_L_law_40 c40_5 (by omega) (by omega) (by decide) rfl (by decide) ?_
                    have hab := (b_sign g z1).1
                    have hbn := (b_sign g z1).2
                    refine lv_aload_n hx hb d_L_law_556 rfl (lv_at hl 1 rfl) ?_
                    refine lv_aload_n hx hb d_L_law_557 rfl (lv_at hl 0 rfl) ?_
                    refine lv_iload hx hb d_L_law_558 (lv_at hl 4 rfl) ?_
                    refine wz_iconst (n := 1) hx hb d_L_law_560 ?_
                    refine wz_iadd hx hb d_L_law_561 rfl ?_
                    refine va_sld (i := iI ((i : Int) + 1)) hx hb hX hbl hbA hw.2.2.2.1 (iI_in (by omega) (by omega) (by omega)) d_L_law_562 ?_
                    refine lv_topi (fun x562 ex562 => ?_)
                    obtain rfl : x562 = iI (z1) := ex562.trans (by rw [iI_cl (by omega) (by omega), show ((i : Int) + 1).toNat = i + 1 by omega]; exact e1)
                    refine lv_aload_n hx hb d_L_law_563 rfl (lv_at hl 3 rfl) ?_
                    refine px_calli hw (vx_runSX (As := [.ref (ad (0)), .int (iI (z1)), .ref (ad (104))]) (rest := []) ⟨hx, hb, hml, hown, hq⟩ (c_L_sign l D ty ad M F23 H.size hl0 (by omega) g hDk hok z1 hz1 _ h104) (vx_cwSW 3 hq (gSW ml_L_80 st_L_sign in_L m_L_sign) rfl rfl rfl (by decide +kernel) ⟨Nat.le_of_ble_eq_true rfl, Nat.le_of_ble_eq_true rfl⟩) (px_preS hw hxk) rfl rfl hl.1 rfl (lv_room (Nat.le_of_ble_eq_true rfl)) d_L_law_564 ⟨by show cn + 8 ≤ 601024; omega, by show sn + 48 ≤ 7293034; omega⟩) (fun _ _ _ _ _ _ hp9 => hp9.elim) ?_
                    intro r564 F564 H locs q564 hw
                    obtain ⟨er564, hDk, ⟨o1, h104, ho1⟩, hf564⟩ := q564
                    subst er564
                    have hMo_at_564 : Mo ty ad F564 (co) (g) := Mo.fr hMo (fun y8 h7 h8 => hf564 (y8) (by omega) (by omega))
                    refine lv_istore (lv' := [(5, .int (iI ((o_sign g z1).1))), (0, .ref (b)), (1, .ref (ad (0))), (2, .ref (ad (98))), (3, .ref (ad (104))), (4, .int (iI ((i : Int))))]) hx hb d_L_law_567 hl (by decide) rfl (fun ls hl => ?_)
                    refine lv_aload_n hx hb d_L_law_569 rfl (lv_at hl 3 rfl) ?_
                    refine lv_aload_n hx hb d_L_law_570 rfl (lv_at hl 1 rfl) ?_
                    refine lv_iload hx hb d_L_law_571 (lv_at hl 5 rfl) ?_
                    refine wz_iconst (n := 1) hx hb d_L_law_573 ?_
                    refine wz_iadd hx hb d_L_law_574 rfl ?_
                    refine va_sld (i := iI ((i : Int) + 1)) hx hb hX hbl hbA hw.2.2.2.1 (iI_in (by omega) (by omega) (by omega)) d_L_law_575 ?_
                    refine lv_topi (fun x575 ex575 => ?_)
                    obtain rfl : x575 = iI (z1) := ex575.trans (by rw [iI_cl (by omega) (by omega), show ((i : Int) + 1).toNat = i + 1 by omega]; exact e1)
                    refine pw_calli hw (va_runV (As := [.int (iI (z1))]) (rest := []) ⟨hx, hb, hml, hown, hq⟩ (c_M_sign l D ty ad M F564 H.size (by omega) g (co) hMo_at_564 hok z1 hz1) (cwV 1 hq (gV ml_L_83 im_M_sign se_M_sign in_M m_M_sign) rfl rfl rfl (by decide +kernel) ⟨Nat.le_of_ble_eq_true rfl, Nat.le_of_ble_eq_true rfl⟩) (pw_preV hw (by omega) hMo_at_564.1 rfl) rfl rfl hl.1 rfl (lv_room (Nat.le_of_ble_eq_true rfl)) d_L_law_576 ⟨by show cn + 8 ≤ 601024; omega, by show sn + 48 ≤ 7293034; omega⟩) (fun r576 F576 H locs q576 hw => ?_)
                    obtain ⟨er576, hMo, hf576⟩ := q576
                    subst er576
                    have hDk_at_576 : Dk ty ad F576 ((o_sign g z1).2.2) := Dk.fr hDk (fun y8 h8 => hf576 (y8) (by omega))
                    have h104_at_576 : F576 (104) = .inl (ty 3, 1, .inr (.inl (o1))) := (hf576 (104) (by omega)).trans h104
                    refine lv_istore (lv' := [(6, .int (iI ((o_sign g z1).2.1))), (5, .int (iI ((o_sign g z1).1))), (0, .ref (b)), (1, .ref (ad (0))), (2, .ref (ad (98))), (3, .ref (ad (104))), (4, .int (iI ((i : Int))))]) hx hb d_L_law_579 hl (by decide) rfl (fun ls hl => ?_)
                    refine lv_aload_n hx hb d_L_law_581 rfl (lv_at hl 4 rfl) ?_
                    refine pw_calli hw (va_runV (As := []) (rest := []) ⟨hx, hb, hml, hown, hq⟩ (c_M_thrown l D ty ad M F576 H.size (by omega) _ _ _ hMo.1) (cwV 0 hq (gV ml_L_61 im_M_thrown se_M_thrown in_M m_M_thrown) rfl rfl rfl (by decide +kernel) ⟨Nat.le_of_ble_eq_true rfl, Nat.le_of_ble_eq_true rfl⟩) (pw_preV hw (by omega) hMo.1 rfl) rfl rfl hl.1 rfl (lv_room (Nat.le_of_ble_eq_true rfl)) d_L_law_582 ⟨by show cn + 8 ≤ 601024; omega, by show sn + 48 ≤ 7293034; omega⟩) (fun r582 F582 H locs q582 hw => ?_)
                    obtain ⟨er582, eF582⟩ := q582
                    rw [eF582] at hw
                    clear eF582
                    subst er582
                    refine lv_iload hx hb d_L_law_585 (lv_at hl 1 rfl) ?_
                    refine wz_icmp_eq (tgt := 592) hx hb d_L_law_587 (by decide) (by omega) (by omega) (by omega) (by omega) (fun c587 => ?_) (fun c587 => ?_)
                    · refine lv_iload hx hb d_L_law_592 (lv_at hl 1 rfl) ?_
                      refine wz_if_ne (tgt := 609) hx hb d_L_law_594 (by decide) (by omega) (by omega) (fun c594 => ?_) (fun c594 => ?_)
                      · refine lv_goto (tgt := 991) hx hb d_L_law_609 (by decide) ?_
                        refine wz_iinc (z := ((i + 6 : Nat) : Int)) (lv' := [(4, .int (iI (((i + 6 : Nat) : Int)))), (6, .int (iI ((o_sign g z1).2.1))), (5, .int (iI ((o_sign g z1).1))), (0, .ref (b)), (1, .ref (ad (0))), (2, .ref (ad (98))), (3, .ref (ad (104)))]) hx hb d_L_law_991 hl (k := 6) rfl (by omega) (by decide) rfl (fun ls hl => ?_)
                        refine lv_goto (tgt := 23) hx hb d_L_law_994 (by decide) ?_
                        exact ih23 (i + 6) _ _ ((o_sign g z1).2.2) ((o_sign g z1).1) _ _ _ _ ls (by omega) (by omega) (by omega) (by omega) (hok.sign _) hDk_at_576 hMo h104_at_576 hw (lv_sub hl [3, 4, 5, 6, 0] rfl)
                      · refine lv_aload_n hx hb d_L_law_597 rfl (lv_at hl 5 rfl) ?_
                        refine wz_iconst (n := 0) hx hb d_L_law_598 ?_
                        refine pw_lald (k := 0) hx hb hw 3 (by omega) h104_at_576 rfl (iI_in (by omega) (by omega) (by omega)) ((iI_cl (by omega) (by omega)).trans (by omega)) d_L_law_599 ?_
                        refine lv_topl (fun x599 ex599 => ?_)
                        obtain rfl : x599 = iL ((o_sign g z1).2.1) := ex599.trans (ho1 (by omega))
                        refine lv_iload hx hb d_L_law_600 (lv_at hl 0 rfl) ?_
                        refine wz_i2l hx hb d_L_law_602 (hbn.1) (hbn.2) ?_
                        refine wz_lcmp_eq (tgt := 609) hx hb d_L_law_603 d_L_law_604 (by decide) (by omega) (by omega) (by omega) (by omega) (fun c603 => ?_) (fun c603 => ?_)
                        · refine lv_goto (tgt := 991) hx hb d_L_law_609 (by decide) ?_
                          refine wz_iinc (z := ((i + 6 : Nat) : Int)) (lv' := [(4, .int (iI (((i + 6 : Nat) : Int)))), (6, .int (iI ((o_sign g z1).2.1))), (5, .int (iI ((o_sign g z1).1))), (0, .ref (b)), (1, .ref (ad (0))), (2, .ref (ad (98))), (3, .ref (ad (104)))]) hx hb d_L_law_991 hl (k := 6) rfl (by omega) (by decide) rfl (fun ls hl => ?_)
                          refine lv_goto (tgt := 23) hx hb d_L_law_994 (by decide) ?_
                          exact ih23 (i + 6) _ _ ((o_sign g z1).2.2) ((o_sign g z1).1) _ _ _ _ ls (by omega) (by omega) (by omega) (by omega) (hok.sign _) hDk_at_576 hMo h104_at_576 hw (lv_sub hl [3, 4, 5, 6, 0] rfl)
                        · exact absurd rfl c603
                    · exact absurd rfl c587
                  · skip
                    by_cases c40_6 : kk = 6
                    · refine wz_tabIn (k := 6) (off := 572) (tgt := 612) hx hb d_L_law_40 c40_6 (by omega) (by omega) (by decide) rfl (by decide) ?_
                      have hab := (b_places hok z1 z2).1
                      have hbn := (b_places hok z1 z2).2
                      refine lv_aload_n hx hb d_L_law_612 rfl (lv_at hl 1 rfl) ?_
                      refine lv_aload_n hx hb d_L_law_613 rfl (lv_at hl 0 rfl) ?_
                      refine lv_iload hx hb d_L_law_614 (lv_at hl 4 rfl) ?_
                      refine wz_iconst (n := 1) hx hb d_L_law_616 ?_
                      refine wz_iadd hx hb d_L_law_617 rfl ?_
                      refine va_sld (i := iI ((i : Int) + 1)) hx hb hX hbl hbA hw.2.2.2.1 (iI_in (by omega) (by omega) (by omega)) d_L_law_618 ?_
                      refine lv_topi (fun x618 ex618 => ?_)
                      obtain rfl : x618 = iI (z1) := ex618.trans (by rw [iI_cl (by omega) (by omega), show ((i : Int) + 1).toNat = i + 1 by omega]; exact e1)
                      refine lv_aload_n hx hb d_L_law_619 rfl (lv_at hl 0 rfl) ?_
                      refine lv_iload hx hb d_L_law_620 (lv_at hl 4 rfl) ?_
                      refine wz_iconst (n := 2) hx hb d_L_law_622 ?_
                      refine wz_iadd hx hb d_L_law_623 rfl ?_
                      refine va_sld (i := iI ((i : Int) + 2)) hx hb hX hbl hbA hw.2.2.2.1 (iI_in (by omega) (by omega) (by omega)) d_L_law_624 ?_
                      refine lv_topi (fun x624 ex624 => ?_)
                      obtain rfl : x624 = iI (z2) := ex624.trans (by rw [iI_cl (by omega) (by omega), show ((i : Int) + 2).toNat = i + 2 by omega]; exact e2)
                      refine lv_aload_n hx hb d_L_law_625 rfl (lv_at hl 3 rfl) ?_
                      refine px_calli hw (vx_runSX (As := [.ref (ad (0)), .int (iI (z1)), .int (iI (z2)), .ref (ad (104))]) (rest := []) ⟨hx, hb, hml, hown, hq⟩ (c_L_places l D ty ad M F23 H.size hl0 (by omega) g hDk hok z1 hz1 z2 hz2 _ h104) (vx_cwSW 4 hq (gSW ml_L_84 st_L_places in_L m_L_places) rfl rfl rfl (by decide +kernel) ⟨Nat.le_of_ble_eq_true rfl, Nat.le_of_ble_eq_true rfl⟩) (px_preS hw hxk) rfl rfl hl.1 rfl (lv_room (Nat.le_of_ble_eq_true rfl)) d_L_law_626 ⟨by show cn + 8 ≤ 601024; omega, by show sn + 48 ≤ 7293034; omega⟩) (fun _ _ _ _ _ _ hp9 => hp9.elim) ?_
                      intro r626 F626 H locs q626 hw
                      obtain ⟨er626, hDk, ⟨o1, h104, ho1⟩, hf626⟩ := q626
                      subst er626
                      have hMo_at_626 : Mo ty ad F626 (co) (g) := Mo.fr hMo (fun y8 h7 h8 => hf626 (y8) (by omega) (by omega))
                      refine lv_istore (lv' := [(5, .int (iI ((o_places g z1 z2).1))), (0, .ref (b)), (1, .ref (ad (0))), (2, .ref (ad (98))), (3, .ref (ad (104))), (4, .int (iI ((i : Int))))]) hx hb d_L_law_629 hl (by decide) rfl (fun ls hl => ?_)
                      refine lv_aload_n hx hb d_L_law_631 rfl (lv_at hl 3 rfl) ?_
                      refine lv_aload_n hx hb d_L_law_632 rfl (lv_at hl 1 rfl) ?_
                      refine lv_iload hx hb d_L_law_633 (lv_at hl 5 rfl) ?_
                      refine wz_iconst (n := 1) hx hb d_L_law_635 ?_
                      refine wz_iadd hx hb d_L_law_636 rfl ?_
                      refine va_sld (i := iI ((i : Int) + 1)) hx hb hX hbl hbA hw.2.2.2.1 (iI_in (by omega) (by omega) (by omega)) d_L_law_637 ?_
                      refine lv_topi (fun x637 ex637 => ?_)
                      obtain rfl : x637 = iI (z1) := ex637.trans (by rw [iI_cl (by omega) (by omega), show ((i : Int) + 1).toNat = i + 1 by omega]; exact e1)
                      refine lv_aload_n hx hb d_L_law_638 rfl (lv_at hl 1 rfl) ?_
                      refine lv_iload hx hb d_L_law_639 (lv_at hl 5 rfl) ?_
                      refine wz_iconst (n := 2) hx hb d_L_law_641 ?_
                      refine wz_iadd hx hb d_L_law_642 rfl ?_
                      refine va_sld (i := iI ((i : Int) + 2)) hx hb hX hbl hbA hw.2.2.2.1 (iI_in (by omega) (by omega) (by omega)) d_L_law_643 ?_
                      refine lv_topi (fun x643 ex643 => ?_)
                      obtain rfl : x643 = iI (z2) := ex643.trans (by rw [iI_cl (by omega) (by omega), show ((i : Int) + 2).toNat = i + 2 by omega]; exact e2)
                      refine pw_calli hw (va_runV (As := [.int (iI (z1)), .int (iI (z2))]) (rest := []) ⟨hx, hb, hml, hown, hq⟩ (c_M_places l D ty ad M F626 H.size (by omega) g (co) hMo_at_626 hok z1 hz1 z2 hz2) (cwV 2 hq (gV ml_L_86 im_M_places se_M_places in_M m_M_places) rfl rfl rfl (by decide +kernel) ⟨Nat.le_of_ble_eq_true rfl, Nat.le_of_ble_eq_true rfl⟩) (pw_preV hw (by omega) hMo_at_626.1 rfl) rfl rfl hl.1 rfl (lv_room (Nat.le_of_ble_eq_true rfl)) d_L_law_644 ⟨by show cn + 8 ≤ 601024; omega, by show sn + 48 ≤ 7293034; omega⟩) (fun r644 F644 H locs q644 hw => ?_)
                      obtain ⟨er644, hMo, hf644⟩ := q644
                      subst er644
                      have hDk_at_644 : Dk ty ad F644 ((o_places g z1 z2).2.2) := Dk.fr hDk (fun y8 h8 => hf644 (y8) (by omega))
                      have h104_at_644 : F644 (104) = .inl (ty 3, 1, .inr (.inl (o1))) := (hf644 (104) (by omega)).trans h104
                      refine lv_istore (lv' := [(6, .int (iI ((o_places g z1 z2).2.1))), (5, .int (iI ((o_places g z1 z2).1))), (0, .ref (b)), (1, .ref (ad (0))), (2, .ref (ad (98))), (3, .ref (ad (104))), (4, .int (iI ((i : Int))))]) hx hb d_L_law_647 hl (by decide) rfl (fun ls hl => ?_)
                      refine lv_aload_n hx hb d_L_law_649 rfl (lv_at hl 4 rfl) ?_
                      refine pw_calli hw (va_runV (As := []) (rest := []) ⟨hx, hb, hml, hown, hq⟩ (c_M_thrown l D ty ad M F644 H.size (by omega) _ _ _ hMo.1) (cwV 0 hq (gV ml_L_61 im_M_thrown se_M_thrown in_M m_M_thrown) rfl rfl rfl (by decide +kernel) ⟨Nat.le_of_ble_eq_true rfl, Nat.le_of_ble_eq_true rfl⟩) (pw_preV hw (by omega) hMo.1 rfl) rfl rfl hl.1 rfl (lv_room (Nat.le_of_ble_eq_true rfl)) d_L_law_650 ⟨by show cn + 8 ≤ 601024; omega, by show sn + 48 ≤ 7293034; omega⟩) (fun r650 F650 H locs q650 hw => ?_)
                      obtain ⟨er650, eF650⟩ := q650
                      rw [eF650] at hw
                      clear eF650
                      subst er650
                      refine lv_iload hx hb d_L_law_653 (lv_at hl 1 rfl) ?_
                      refine wz_icmp_eq (tgt := 660) hx hb d_L_law_655 (by decide) (by omega) (by omega) (by omega) (by omega) (fun c655 => ?_) (fun c655 => ?_)
                      · refine lv_iload hx hb d_L_law_660 (lv_at hl 1 rfl) ?_
                        refine wz_if_ne (tgt := 677) hx hb d_L_law_662 (by decide) (by omega) (by omega) (fun c662 => ?_) (fun c662 => ?_)
                        · refine lv_goto (tgt := 991) hx hb d_L_law_677 (by decide) ?_
                          refine wz_iinc (z := ((i + 6 : Nat) : Int)) (lv' := [(4, .int (iI (((i + 6 : Nat) : Int)))), (6, .int (iI ((o_places g z1 z2).2.1))), (5, .int (iI ((o_places g z1 z2).1))), (0, .ref (b)), (1, .ref (ad (0))), (2, .ref (ad (98))), (3, .ref (ad (104)))]) hx hb d_L_law_991 hl (k := 6) rfl (by omega) (by decide) rfl (fun ls hl => ?_)
                          refine lv_goto (tgt := 23) hx hb d_L_law_994 (by decide) ?_
                          exact ih23 (i + 6) _ _ ((o_places g z1 z2).2.2) ((o_places g z1 z2).1) _ _ _ _ ls (by omega) (by omega) (by omega) (by omega) (hok.places _ _) hDk_at_644 hMo h104_at_644 hw (lv_sub hl [3, 4, 5, 6, 0] rfl)
                        · refine lv_aload_n hx hb d_L_law_665 rfl (lv_at hl 5 rfl) ?_
                          refine wz_iconst (n := 0) hx hb d_L_law_666 ?_
                          refine pw_lald (k := 0) hx hb hw 3 (by omega) h104_at_644 rfl (iI_in (by omega) (by omega) (by omega)) ((iI_cl (by omega) (by omega)).trans (by omega)) d_L_law_667 ?_
                          refine lv_topl (fun x667 ex667 => ?_)
                          obtain rfl : x667 = iL ((o_places g z1 z2).2.1) := ex667.trans (ho1 (by omega))
                          refine lv_iload hx hb d_L_law_668 (lv_at hl 0 rfl) ?_
                          refine wz_i2l hx hb d_L_law_670 (hbn.1) (hbn.2) ?_
                          refine wz_lcmp_eq (tgt := 677) hx hb d_L_law_671 d_L_law_672 (by decide) (by omega) (by omega) (by omega) (by omega) (fun c671 => ?_) (fun c671 => ?_)
                          · refine lv_goto (tgt := 991) hx hb d_L_law_677 (by decide) ?_
                            refine wz_iinc (z := ((i + 6 : Nat) : Int)) (lv' := [(4, .int (iI (((i + 6 : Nat) : Int)))), (6, .int (iI ((o_places g z1 z2).2.1))), (5, .int (iI ((o_places g z1 z2).1))), (0, .ref (b)), (1, .ref (ad (0))), (2, .ref (ad (98))), (3, .ref (ad (104)))]) hx hb d_L_law_991 hl (k := 6) rfl (by omega) (by decide) rfl (fun ls hl => ?_)
                            refine lv_goto (tgt := 23) hx hb d_L_law_994 (by decide) ?_
                            exact ih23 (i + 6) _ _ ((o_places g z1 z2).2.2) ((o_places g z1 z2).1) _ _ _ _ ls (by omega) (by omega) (by omega) (by omega) (hok.places _ _) hDk_at_644 hMo h104_at_644 hw (lv_sub hl [3, 4, 5, 6, 0] rfl)
                          · exact absurd rfl c671
                      · exact absurd rfl c655
                    · skip
                      by_cases c40_7 : kk = 7
                      · refine wz_tabIn (k := 7) (off := 640) (tgt := 680) hx hb d_L_law_40 c40_7 (by omega) (by omega) (by decide) rfl (by decide) ?_
                        have hab := c_part9 g z1 z2 z3
                        have hpb := part_b g z1 z2 z3
                        refine lv_aload_n hx hb d_L_law_680 rfl (lv_at hl 1 rfl) ?_
                        refine lv_aload_n hx hb d_L_law_681 rfl (lv_at hl 0 rfl) ?_
                        refine lv_iload hx hb d_L_law_682 (lv_at hl 4 rfl) ?_
                        refine wz_iconst (n := 1) hx hb d_L_law_684 ?_
                        refine wz_iadd hx hb d_L_law_685 rfl ?_
                        refine va_sld (i := iI ((i : Int) + 1)) hx hb hX hbl hbA hw.2.2.2.1 (iI_in (by omega) (by omega) (by omega)) d_L_law_686 ?_
                        refine lv_topi (fun x686 ex686 => ?_)
                        obtain rfl : x686 = iI (z1) := ex686.trans (by rw [iI_cl (by omega) (by omega), show ((i : Int) + 1).toNat = i + 1 by omega]; exact e1)
                        refine lv_aload_n hx hb d_L_law_687 rfl (lv_at hl 0 rfl) ?_
                        refine lv_iload hx hb d_L_law_688 (lv_at hl 4 rfl) ?_
                        refine wz_iconst (n := 2) hx hb d_L_law_690 ?_
                        refine wz_iadd hx hb d_L_law_691 rfl ?_
                        refine va_sld (i := iI ((i : Int) + 2)) hx hb hX hbl hbA hw.2.2.2.1 (iI_in (by omega) (by omega) (by omega)) d_L_law_692 ?_
                        refine lv_topi (fun x692 ex692 => ?_)
                        obtain rfl : x692 = iI (z2) := ex692.trans (by rw [iI_cl (by omega) (by omega), show ((i : Int) + 2).toNat = i + 2 by omega]; exact e2)
                        refine lv_aload_n hx hb d_L_law_693 rfl (lv_at hl 0 rfl) ?_
                        refine lv_iload hx hb d_L_law_694 (lv_at hl 4 rfl) ?_
                        refine wz_iconst (n := 3) hx hb d_L_law_696 ?_
                        refine wz_iadd hx hb d_L_law_697 rfl ?_
                        refine va_sld (i := iI ((i : Int) + 3)) hx hb hX hbl hbA hw.2.2.2.1 (iI_in (by omega) (by omega) (by omega)) d_L_law_698 ?_
                        refine lv_topi (fun x698 ex698 => ?_)
                        obtain rfl : x698 = iI (z3) := ex698.trans (by rw [iI_cl (by omega) (by omega), show ((i : Int) + 3).toNat = i + 3 by omega]; exact e3)
                        refine lv_aload_n hx hb d_L_law_699 rfl (lv_at hl 3 rfl) ?_
                        refine px_calli hw (vx_runSX (As := [.ref (ad (0)), .int (iI (z1)), .int (iI (z2)), .int (iI (z3)), .ref (ad (104))]) (rest := []) ⟨hx, hb, hml, hown, hq⟩ (c_L_part l D ty ad M F23 H.size hl0 (by omega) g hDk hok z1 hz1 z2 hz2 z3 hz3 _ h104) (vx_cwSW 5 hq (gSW ml_L_87 st_L_part in_L m_L_part) rfl rfl rfl (by decide +kernel) ⟨Nat.le_of_ble_eq_true rfl, Nat.le_of_ble_eq_true rfl⟩) (px_preS hw hxk) rfl rfl hl.1 rfl (lv_room (Nat.le_of_ble_eq_true rfl)) d_L_law_700 ⟨by show cn + 8 ≤ 601024; omega, by show sn + 48 ≤ 7293034; omega⟩) (fun _ _ _ _ _ _ hp9 => hp9.elim) ?_
                        intro r700 F700 H locs q700 hw
                        obtain ⟨er700, hDk, ⟨o1, h104, ho1⟩, hf700⟩ := q700
                        subst er700
                        have hMo_at_700 : Mo ty ad F700 (co) (g) := Mo.fr hMo (fun y8 h7 h8 => hf700 (y8) (by omega) (by omega))
                        refine lv_istore (lv' := [(5, .int (iI ((o_part g z1 z2 z3).1))), (0, .ref (b)), (1, .ref (ad (0))), (2, .ref (ad (98))), (3, .ref (ad (104))), (4, .int (iI ((i : Int))))]) hx hb d_L_law_703 hl (by decide) rfl (fun ls hl => ?_)
                        refine lv_aload_n hx hb d_L_law_705 rfl (lv_at hl 3 rfl) ?_
                        refine lv_aload_n hx hb d_L_law_706 rfl (lv_at hl 1 rfl) ?_
                        refine lv_iload hx hb d_L_law_707 (lv_at hl 5 rfl) ?_
                        refine wz_iconst (n := 1) hx hb d_L_law_709 ?_
                        refine wz_iadd hx hb d_L_law_710 rfl ?_
                        refine va_sld (i := iI ((i : Int) + 1)) hx hb hX hbl hbA hw.2.2.2.1 (iI_in (by omega) (by omega) (by omega)) d_L_law_711 ?_
                        refine lv_topi (fun x711 ex711 => ?_)
                        obtain rfl : x711 = iI (z1) := ex711.trans (by rw [iI_cl (by omega) (by omega), show ((i : Int) + 1).toNat = i + 1 by omega]; exact e1)
                        refine lv_aload_n hx hb d_L_law_712 rfl (lv_at hl 1 rfl) ?_
                        refine lv_iload hx hb d_L_law_713 (lv_at hl 5 rfl) ?_
                        refine wz_iconst (n := 2) hx hb d_L_law_715 ?_
                        refine wz_iadd hx hb d_L_law_716 rfl ?_
                        refine va_sld (i := iI ((i : Int) + 2)) hx hb hX hbl hbA hw.2.2.2.1 (iI_in (by omega) (by omega) (by omega)) d_L_law_717 ?_
                        refine lv_topi (fun x717 ex717 => ?_)
                        obtain rfl : x717 = iI (z2) := ex717.trans (by rw [iI_cl (by omega) (by omega), show ((i : Int) + 2).toNat = i + 2 by omega]; exact e2)
                        refine lv_aload_n hx hb d_L_law_718 rfl (lv_at hl 1 rfl) ?_
                        refine lv_iload hx hb d_L_law_719 (lv_at hl 5 rfl) ?_
                        refine wz_iconst (n := 3) hx hb d_L_law_721 ?_
                        refine wz_iadd hx hb d_L_law_722 rfl ?_
                        refine va_sld (i := iI ((i : Int) + 3)) hx hb hX hbl hbA hw.2.2.2.1 (iI_in (by omega) (by omega) (by omega)) d_L_law_723 ?_
                        refine lv_topi (fun x723 ex723 => ?_)
                        obtain rfl : x723 = iI (z3) := ex723.trans (by rw [iI_cl (by omega) (by omega), show ((i : Int) + 3).toNat = i + 3 by omega]; exact e3)
                        refine pw_calll hw (va_runV (As := [.int (iI (z1)), .int (iI (z2)), .int (iI (z3))]) (rest := []) ⟨hx, hb, hml, hown, hq⟩ (c_M_part l D ty ad M F700 H.size (by omega) g (co) hMo_at_700 hok z1 hz1 z2 hz2 z3 hz3) (cwV 3 hq (gV ml_L_89 im_M_part se_M_part in_M m_M_part) rfl rfl rfl (by decide +kernel) ⟨Nat.le_of_ble_eq_true rfl, Nat.le_of_ble_eq_true rfl⟩) (pw_preV hw (by omega) hMo_at_700.1 rfl) rfl rfl hl.1 rfl (lv_room (Nat.le_of_ble_eq_true rfl)) d_L_law_724 ⟨by show cn + 8 ≤ 601024; omega, by show sn + 48 ≤ 7293034; omega⟩) (fun r724 F724 H locs q724 hw => ?_)
                        obtain ⟨er724, hMo, hf724⟩ := q724
                        subst er724
                        have hDk_at_724 : Dk ty ad F724 ((o_part g z1 z2 z3).2.2) := Dk.fr hDk (fun y8 h8 => hf724 (y8) (by omega))
                        have h104_at_724 : F724 (104) = .inl (ty 3, 1, .inr (.inl (o1))) := (hf724 (104) (by omega)).trans h104
                        refine lv_lstore (lv' := [(6, .long (iL ((o_part g z1 z2 z3).2.1))), (5, .int (iI ((o_part g z1 z2 z3).1))), (0, .ref (b)), (1, .ref (ad (0))), (2, .ref (ad (98))), (3, .ref (ad (104))), (4, .int (iI ((i : Int))))]) hx hb d_L_law_727 hl (by decide) rfl (fun ls hl => ?_)
                        refine lv_aload_n hx hb d_L_law_729 rfl (lv_at hl 4 rfl) ?_
                        refine pw_calli hw (va_runV (As := []) (rest := []) ⟨hx, hb, hml, hown, hq⟩ (c_M_thrown l D ty ad M F724 H.size (by omega) _ _ _ hMo.1) (cwV 0 hq (gV ml_L_61 im_M_thrown se_M_thrown in_M m_M_thrown) rfl rfl rfl (by decide +kernel) ⟨Nat.le_of_ble_eq_true rfl, Nat.le_of_ble_eq_true rfl⟩) (pw_preV hw (by omega) hMo.1 rfl) rfl rfl hl.1 rfl (lv_room (Nat.le_of_ble_eq_true rfl)) d_L_law_730 ⟨by show cn + 8 ≤ 601024; omega, by show sn + 48 ≤ 7293034; omega⟩) (fun r730 F730 H locs q730 hw => ?_)
                        obtain ⟨er730, eF730⟩ := q730
                        rw [eF730] at hw
                        clear eF730
                        subst er730
                        refine lv_iload hx hb d_L_law_733 (lv_at hl 1 rfl) ?_
                        refine wz_icmp_eq (tgt := 740) hx hb d_L_law_735 (by decide) (by omega) (by omega) (by omega) (by omega) (fun c735 => ?_) (fun c735 => ?_)
                        · refine lv_iload hx hb d_L_law_740 (lv_at hl 1 rfl) ?_
                          refine wz_if_ne (tgt := 756) hx hb d_L_law_742 (by decide) (by omega) (by omega) (fun c742 => ?_) (fun c742 => ?_)
                          · refine lv_goto (tgt := 991) hx hb d_L_law_756 (by decide) ?_
                            refine wz_iinc (z := ((i + 6 : Nat) : Int)) (lv' := [(4, .int (iI (((i + 6 : Nat) : Int)))), (6, .long (iL ((o_part g z1 z2 z3).2.1))), (5, .int (iI ((o_part g z1 z2 z3).1))), (0, .ref (b)), (1, .ref (ad (0))), (2, .ref (ad (98))), (3, .ref (ad (104)))]) hx hb d_L_law_991 hl (k := 6) rfl (by omega) (by decide) rfl (fun ls hl => ?_)
                            refine lv_goto (tgt := 23) hx hb d_L_law_994 (by decide) ?_
                            exact ih23 (i + 6) _ _ ((o_part g z1 z2 z3).2.2) ((o_part g z1 z2 z3).1) _ _ _ _ ls (by omega) (by omega) (by omega) (by omega) (hok.part _ _ _) hDk_at_724 hMo h104_at_724 hw (lv_sub hl [3, 4, 5, 6, 0] rfl)
                          · refine lv_aload_n hx hb d_L_law_745 rfl (lv_at hl 5 rfl) ?_
                            refine wz_iconst (n := 0) hx hb d_L_law_746 ?_
                            refine pw_lald (k := 0) hx hb hw 3 (by omega) h104_at_724 rfl (iI_in (by omega) (by omega) (by omega)) ((iI_cl (by omega) (by omega)).trans (by omega)) d_L_law_747 ?_
                            refine lv_topl (fun x747 ex747 => ?_)
                            obtain rfl : x747 = iL ((o_part g z1 z2 z3).2.1) := ex747.trans (ho1 (by omega))
                            refine lv_lload hx hb d_L_law_748 (lv_at hl 0 rfl) ?_
                            refine wz_lcmp_eq (tgt := 756) hx hb d_L_law_750 d_L_law_751 (by decide) (by omega) (by omega) (by omega) (by omega) (fun c750 => ?_) (fun c750 => ?_)
                            · refine lv_goto (tgt := 991) hx hb d_L_law_756 (by decide) ?_
                              refine wz_iinc (z := ((i + 6 : Nat) : Int)) (lv' := [(4, .int (iI (((i + 6 : Nat) : Int)))), (6, .long (iL ((o_part g z1 z2 z3).2.1))), (5, .int (iI ((o_part g z1 z2 z3).1))), (0, .ref (b)), (1, .ref (ad (0))), (2, .ref (ad (98))), (3, .ref (ad (104)))]) hx hb d_L_law_991 hl (k := 6) rfl (by omega) (by decide) rfl (fun ls hl => ?_)
                              refine lv_goto (tgt := 23) hx hb d_L_law_994 (by decide) ?_
                              exact ih23 (i + 6) _ _ ((o_part g z1 z2 z3).2.2) ((o_part g z1 z2 z3).1) _ _ _ _ ls (by omega) (by omega) (by omega) (by omega) (hok.part _ _ _) hDk_at_724 hMo h104_at_724 hw (lv_sub hl [3, 4, 5, 6, 0] rfl)
                            · exact absurd rfl c750
                        · exact absurd rfl c735
                      · skip
                        by_cases c40_8 : kk = 8
                        · refine wz_tabIn (k := 8) (off := 719) (tgt := 759) hx hb d_L_law_40 c40_8 (by omega) (by omega) (by decide) rfl (by decide) ?_
                          have hab := (b_write hok z1).1
                          have hbn := (b_write hok z1).2
                          refine lv_aload_n hx hb d_L_law_759 rfl (lv_at hl 1 rfl) ?_
                          refine lv_aload_n hx hb d_L_law_760 rfl (lv_at hl 0 rfl) ?_
                          refine lv_iload hx hb d_L_law_761 (lv_at hl 4 rfl) ?_
                          refine wz_iconst (n := 1) hx hb d_L_law_763 ?_
                          refine wz_iadd hx hb d_L_law_764 rfl ?_
                          refine va_sld (i := iI ((i : Int) + 1)) hx hb hX hbl hbA hw.2.2.2.1 (iI_in (by omega) (by omega) (by omega)) d_L_law_765 ?_
                          refine lv_topi (fun x765 ex765 => ?_)
                          obtain rfl : x765 = iI (z1) := ex765.trans (by rw [iI_cl (by omega) (by omega), show ((i : Int) + 1).toNat = i + 1 by omega]; exact e1)
                          refine lv_aload_n hx hb d_L_law_766 rfl (lv_at hl 3 rfl) ?_
                          refine px_calli hw (vx_runSX (As := [.ref (ad (0)), .int (iI (z1)), .ref (ad (104))]) (rest := []) ⟨hx, hb, hml, hown, hq⟩ (c_L_write l D ty ad M F23 H.size hl0 (by omega) g hDk hok z1 hz1 _ h104) (vx_cwSW 3 hq (gSW ml_L_90 st_L_write in_L m_L_write) rfl rfl rfl (by decide +kernel) ⟨Nat.le_of_ble_eq_true rfl, Nat.le_of_ble_eq_true rfl⟩) (px_preS hw hxk) rfl rfl hl.1 rfl (lv_room (Nat.le_of_ble_eq_true rfl)) d_L_law_767 ⟨by show cn + 8 ≤ 601024; omega, by show sn + 48 ≤ 7293034; omega⟩) (fun _ _ _ _ _ _ hp9 => hp9.elim) ?_
                          intro r767 F767 H locs q767 hw
                          obtain ⟨er767, hDk, ⟨o1, h104, ho1⟩, hf767⟩ := q767
                          subst er767
                          have hMo_at_767 : Mo ty ad F767 (co) (g) := Mo.fr hMo (fun y8 h7 h8 => hf767 (y8) (by omega) (by omega))
                          refine lv_istore (lv' := [(5, .int (iI ((o_write g z1).1))), (0, .ref (b)), (1, .ref (ad (0))), (2, .ref (ad (98))), (3, .ref (ad (104))), (4, .int (iI ((i : Int))))]) hx hb d_L_law_770 hl (by decide) rfl (fun ls hl => ?_)
                          refine lv_aload_n hx hb d_L_law_772 rfl (lv_at hl 3 rfl) ?_
                          refine lv_aload_n hx hb d_L_law_773 rfl (lv_at hl 1 rfl) ?_
                          refine lv_iload hx hb d_L_law_774 (lv_at hl 5 rfl) ?_
                          refine wz_iconst (n := 1) hx hb d_L_law_776 ?_
                          refine wz_iadd hx hb d_L_law_777 rfl ?_
                          refine va_sld (i := iI ((i : Int) + 1)) hx hb hX hbl hbA hw.2.2.2.1 (iI_in (by omega) (by omega) (by omega)) d_L_law_778 ?_
                          refine lv_topi (fun x778 ex778 => ?_)
                          obtain rfl : x778 = iI (z1) := ex778.trans (by rw [iI_cl (by omega) (by omega), show ((i : Int) + 1).toNat = i + 1 by omega]; exact e1)
                          refine pw_calli hw (va_runV (As := [.int (iI (z1))]) (rest := []) ⟨hx, hb, hml, hown, hq⟩ (c_M_write l D ty ad M F767 H.size (by omega) g (co) hMo_at_767 hok z1 hz1) (cwV 1 hq (gV ml_L_92 im_M_write se_M_write in_M m_M_write) rfl rfl rfl (by decide +kernel) ⟨Nat.le_of_ble_eq_true rfl, Nat.le_of_ble_eq_true rfl⟩) (pw_preV hw (by omega) hMo_at_767.1 rfl) rfl rfl hl.1 rfl (lv_room (Nat.le_of_ble_eq_true rfl)) d_L_law_779 ⟨by show cn + 8 ≤ 601024; omega, by show sn + 48 ≤ 7293034; omega⟩) (fun r779 F779 H locs q779 hw => ?_)
                          obtain ⟨er779, hMo, hf779⟩ := q779
                          subst er779
                          have hDk_at_779 : Dk ty ad F779 ((o_write g z1).2.2) := Dk.fr hDk (fun y8 h8 => hf779 (y8) (by omega))
                          have h104_at_779 : F779 (104) = .inl (ty 3, 1, .inr (.inl (o1))) := (hf779 (104) (by omega)).trans h104
                          refine lv_istore (lv' := [(6, .int (iI ((o_write g z1).2.1))), (5, .int (iI ((o_write g z1).1))), (0, .ref (b)), (1, .ref (ad (0))), (2, .ref (ad (98))), (3, .ref (ad (104))), (4, .int (iI ((i : Int))))]) hx hb d_L_law_782 hl (by decide) rfl (fun ls hl => ?_)
                          refine lv_aload_n hx hb d_L_law_784 rfl (lv_at hl 4 rfl) ?_
                          refine pw_calli hw (va_runV (As := []) (rest := []) ⟨hx, hb, hml, hown, hq⟩ (c_M_thrown l D ty ad M F779 H.size (by omega) _ _ _ hMo.1) (cwV 0 hq (gV ml_L_61 im_M_thrown se_M_thrown in_M m_M_thrown) rfl rfl rfl (by decide +kernel) ⟨Nat.le_of_ble_eq_true rfl, Nat.le_of_ble_eq_true rfl⟩) (pw_preV hw (by omega) hMo.1 rfl) rfl rfl hl.1 rfl (lv_room (Nat.le_of_ble_eq_true rfl)) d_L_law_785 ⟨by show cn + 8 ≤ 601024; omega, by show sn + 48 ≤ 7293034; omega⟩) (fun r785 F785 H locs q785 hw => ?_)
                          obtain ⟨er785, eF785⟩ := q785
                          rw [eF785] at hw
                          clear eF785
                          subst er785
                          refine lv_iload hx hb d_L_law_788 (lv_at hl 1 rfl) ?_
                          refine wz_icmp_eq (tgt := 795) hx hb d_L_law_790 (by decide) (by omega) (by omega) (by omega) (by omega) (fun c790 => ?_) (fun c790 => ?_)
                          · refine lv_iload hx hb d_L_law_795 (lv_at hl 1 rfl) ?_
                            refine wz_if_ne (tgt := 812) hx hb d_L_law_797 (by decide) (by omega) (by omega) (fun c797 => ?_) (fun c797 => ?_)
                            · refine lv_goto (tgt := 991) hx hb d_L_law_812 (by decide) ?_
                              refine wz_iinc (z := ((i + 6 : Nat) : Int)) (lv' := [(4, .int (iI (((i + 6 : Nat) : Int)))), (6, .int (iI ((o_write g z1).2.1))), (5, .int (iI ((o_write g z1).1))), (0, .ref (b)), (1, .ref (ad (0))), (2, .ref (ad (98))), (3, .ref (ad (104)))]) hx hb d_L_law_991 hl (k := 6) rfl (by omega) (by decide) rfl (fun ls hl => ?_)
                              refine lv_goto (tgt := 23) hx hb d_L_law_994 (by decide) ?_
                              exact ih23 (i + 6) _ _ ((o_write g z1).2.2) ((o_write g z1).1) _ _ _ _ ls (by omega) (by omega) (by omega) (by omega) (hok.write _) hDk_at_779 hMo h104_at_779 hw (lv_sub hl [3, 4, 5, 6, 0] rfl)
                            · refine lv_aload_n hx hb d_L_law_800 rfl (lv_at hl 5 rfl) ?_
                              refine wz_iconst (n := 0) hx hb d_L_law_801 ?_
                              refine pw_lald (k := 0) hx hb hw 3 (by omega) h104_at_779 rfl (iI_in (by omega) (by omega) (by omega)) ((iI_cl (by omega) (by omega)).trans (by omega)) d_L_law_802 ?_
                              refine lv_topl (fun x802 ex802 => ?_)
                              obtain rfl : x802 = iL ((o_write g z1).2.1) := ex802.trans (ho1 (by omega))
                              refine lv_iload hx hb d_L_law_803 (lv_at hl 0 rfl) ?_
                              refine wz_i2l hx hb d_L_law_805 (hbn.1) (hbn.2) ?_
                              refine wz_lcmp_eq (tgt := 812) hx hb d_L_law_806 d_L_law_807 (by decide) (by omega) (by omega) (by omega) (by omega) (fun c806 => ?_) (fun c806 => ?_)
                              · refine lv_goto (tgt := 991) hx hb d_L_law_812 (by decide) ?_
                                refine wz_iinc (z := ((i + 6 : Nat) : Int)) (lv' := [(4, .int (iI (((i + 6 : Nat) : Int)))), (6, .int (iI ((o_write g z1).2.1))), (5, .int (iI ((o_write g z1).1))), (0, .ref (b)), (1, .ref (ad (0))), (2, .ref (ad (98))), (3, .ref (ad (104)))]) hx hb d_L_law_991 hl (k := 6) rfl (by omega) (by decide) rfl (fun ls hl => ?_)
                                refine lv_goto (tgt := 23) hx hb d_L_law_994 (by decide) ?_
                                exact ih23 (i + 6) _ _ ((o_write g z1).2.2) ((o_write g z1).1) _ _ _ _ ls (by omega) (by omega) (by omega) (by omega) (hok.write _) hDk_at_779 hMo h104_at_779 hw (lv_sub hl [3, 4, 5, 6, 0] rfl)
                              · exact absurd rfl c806
                          · exact absurd rfl c790
                        · skip
                          by_cases c40_9 : kk = 9
                          · refine wz_tabIn (k := 9) (off := 775) (tgt := 815) hx hb d_L_law_40 c40_9 (by omega) (by omega) (by decide) rfl (by decide) ?_
                            obtain ⟨C, hC, eC⟩ := iL_uns (((iL (z1)) <<< ((iI (32)).toInt64 &&& 63)) ||| ((iL (z2)) &&& (iL (4294967295))))
                            have htb := type_b hok C z3
                            refine lv_aload_n hx hb d_L_law_815 rfl (lv_at hl 1 rfl) ?_
                            refine lv_aload_n hx hb d_L_law_816 rfl (lv_at hl 0 rfl) ?_
                            refine lv_iload hx hb d_L_law_817 (lv_at hl 4 rfl) ?_
                            refine wz_iconst (n := 1) hx hb d_L_law_819 ?_
                            refine wz_iadd hx hb d_L_law_820 rfl ?_
                            refine va_sld (i := iI ((i : Int) + 1)) hx hb hX hbl hbA hw.2.2.2.1 (iI_in (by omega) (by omega) (by omega)) d_L_law_821 ?_
                            refine lv_topi (fun x821 ex821 => ?_)
                            obtain rfl : x821 = iI (z1) := ex821.trans (by rw [iI_cl (by omega) (by omega), show ((i : Int) + 1).toNat = i + 1 by omega]; exact e1)
                            refine wz_i2l hx hb d_L_law_822 (by omega) (by omega) ?_
                            refine wz_bipush (n := 32) hx hb d_L_law_823 (by decide) ?_
                            refine lv_lshl (v := (iL (z1)) <<< ((iI (32)).toInt64 &&& 63)) hx hb d_L_law_825 (rfl) ?_
                            refine lv_aload_n hx hb d_L_law_826 rfl (lv_at hl 0 rfl) ?_
                            refine lv_iload hx hb d_L_law_827 (lv_at hl 4 rfl) ?_
                            refine wz_iconst (n := 2) hx hb d_L_law_829 ?_
                            refine wz_iadd hx hb d_L_law_830 rfl ?_
                            refine va_sld (i := iI ((i : Int) + 2)) hx hb hX hbl hbA hw.2.2.2.1 (iI_in (by omega) (by omega) (by omega)) d_L_law_831 ?_
                            refine lv_topi (fun x831 ex831 => ?_)
                            obtain rfl : x831 = iI (z2) := ex831.trans (by rw [iI_cl (by omega) (by omega), show ((i : Int) + 2).toNat = i + 2 by omega]; exact e2)
                            refine wz_i2l hx hb d_L_law_832 (by omega) (by omega) ?_
                            refine lv_ldc2 (v := iL (4294967295)) hx hb hown (hq _ cj_L_53) d_L_law_833 ?_
                            refine lv_land hx hb d_L_law_836 ?_
                            refine lv_lor hx hb d_L_law_837 ?_
                            refine lv_topl (fun x837 ex837 => ?_)
                            obtain rfl : x837 = iL ((C : Int)) := ex837.trans (eC)
                            refine lv_aload_n hx hb d_L_law_838 rfl (lv_at hl 0 rfl) ?_
                            refine lv_iload hx hb d_L_law_839 (lv_at hl 4 rfl) ?_
                            refine wz_iconst (n := 3) hx hb d_L_law_841 ?_
                            refine wz_iadd hx hb d_L_law_842 rfl ?_
                            refine va_sld (i := iI ((i : Int) + 3)) hx hb hX hbl hbA hw.2.2.2.1 (iI_in (by omega) (by omega) (by omega)) d_L_law_843 ?_
                            refine lv_topi (fun x843 ex843 => ?_)
                            obtain rfl : x843 = iI (z3) := ex843.trans (by rw [iI_cl (by omega) (by omega), show ((i : Int) + 3).toNat = i + 3 by omega]; exact e3)
                            refine pw_calli hw (va_runV (As := [.long (iL ((C : Int))), .int (iI (z3))]) (rest := []) ⟨hx, hb, hml, hown, hq⟩ (c_K_type l D ty ad M F23 H.size (by omega) g hDk hok C z3 hC hz3) (cwV 2 hq (gV ml_L_93 im_K_type se_K_type in_K m_K_type) rfl rfl rfl (by decide +kernel) ⟨Nat.le_of_ble_eq_true rfl, Nat.le_of_ble_eq_true rfl⟩) (pw_preV hw (by omega) hDk.1 rfl) rfl rfl hl.1 rfl (lv_room (Nat.le_of_ble_eq_true rfl)) d_L_law_844 ⟨by show cn ≤ 601024; omega, by show sn ≤ 7293034; omega⟩) (fun r844 F844 H locs q844 hw => ?_)
                            obtain ⟨er844, hDk, hf844⟩ := q844
                            subst er844
                            have hMo_at_844 : Mo ty ad F844 (co) (g) := Mo.fr hMo (fun y8 h7 h8 => hf844 (y8) (by omega))
                            have h104_at_844 : F844 (104) = .inl (ty 3, 1, .inr (.inl (o0))) := (hf844 (104) (by omega)).trans h104
                            refine lv_aload_n hx hb d_L_law_847 rfl (lv_at hl 2 rfl) ?_
                            refine lv_aload_n hx hb d_L_law_848 rfl (lv_at hl 0 rfl) ?_
                            refine lv_iload hx hb d_L_law_849 (lv_at hl 4 rfl) ?_
                            refine wz_iconst (n := 1) hx hb d_L_law_851 ?_
                            refine wz_iadd hx hb d_L_law_852 rfl ?_
                            refine va_sld (i := iI ((i : Int) + 1)) hx hb hX hbl hbA hw.2.2.2.1 (iI_in (by omega) (by omega) (by omega)) d_L_law_853 ?_
                            refine lv_topi (fun x853 ex853 => ?_)
                            obtain rfl : x853 = iI (z1) := ex853.trans (by rw [iI_cl (by omega) (by omega), show ((i : Int) + 1).toNat = i + 1 by omega]; exact e1)
                            refine wz_i2l hx hb d_L_law_854 (by omega) (by omega) ?_
                            refine wz_bipush (n := 32) hx hb d_L_law_855 (by decide) ?_
                            refine lv_lshl (v := (iL (z1)) <<< ((iI (32)).toInt64 &&& 63)) hx hb d_L_law_857 (rfl) ?_
                            refine lv_aload_n hx hb d_L_law_858 rfl (lv_at hl 0 rfl) ?_
                            refine lv_iload hx hb d_L_law_859 (lv_at hl 4 rfl) ?_
                            refine wz_iconst (n := 2) hx hb d_L_law_861 ?_
                            refine wz_iadd hx hb d_L_law_862 rfl ?_
                            refine va_sld (i := iI ((i : Int) + 2)) hx hb hX hbl hbA hw.2.2.2.1 (iI_in (by omega) (by omega) (by omega)) d_L_law_863 ?_
                            refine lv_topi (fun x863 ex863 => ?_)
                            obtain rfl : x863 = iI (z2) := ex863.trans (by rw [iI_cl (by omega) (by omega), show ((i : Int) + 2).toNat = i + 2 by omega]; exact e2)
                            refine wz_i2l hx hb d_L_law_864 (by omega) (by omega) ?_
                            refine lv_ldc2 (v := iL (4294967295)) hx hb hown (hq _ cj_L_53) d_L_law_865 ?_
                            refine lv_land hx hb d_L_law_868 ?_
                            refine lv_lor hx hb d_L_law_869 ?_
                            refine lv_topl (fun x869 ex869 => ?_)
                            obtain rfl : x869 = iL ((C : Int)) := ex869.trans (eC)
                            refine lv_aload_n hx hb d_L_law_870 rfl (lv_at hl 0 rfl) ?_
                            refine lv_iload hx hb d_L_law_871 (lv_at hl 4 rfl) ?_
                            refine wz_iconst (n := 3) hx hb d_L_law_873 ?_
                            refine wz_iadd hx hb d_L_law_874 rfl ?_
                            refine va_sld (i := iI ((i : Int) + 3)) hx hb hX hbl hbA hw.2.2.2.1 (iI_in (by omega) (by omega) (by omega)) d_L_law_875 ?_
                            refine lv_topi (fun x875 ex875 => ?_)
                            obtain rfl : x875 = iI (z3) := ex875.trans (by rw [iI_cl (by omega) (by omega), show ((i : Int) + 3).toNat = i + 3 by omega]; exact e3)
                            refine pw_calli hw (va_runV (As := [.long (iL ((C : Int))), .int (iI (z3))]) (rest := [.int (iI ((s_type g C z3).1))]) ⟨hx, hb, hml, hown, hq⟩ (c_M_type l D ty ad M F844 H.size (by omega) g (co) hMo_at_844 hok C hC z3 hz3) (cwV 2 hq (gV ml_L_97 im_M_type se_M_type in_M m_M_type) rfl rfl rfl (by decide +kernel) ⟨Nat.le_of_ble_eq_true rfl, Nat.le_of_ble_eq_true rfl⟩) (pw_preV hw (by omega) hMo_at_844.1 rfl) rfl rfl hl.1 rfl (lv_room (Nat.le_of_ble_eq_true rfl)) d_L_law_876 ⟨by show cn ≤ 601024; omega, by show sn ≤ 7293034; omega⟩) (fun r876 F876 H locs q876 hw => ?_)
                            obtain ⟨er876, hMo, hf876⟩ := q876
                            subst er876
                            have h104_at_876 : F876 (104) = .inl (ty 3, 1, .inr (.inl (o0))) := (hf876 (104) (by omega)).trans h104_at_844
                            have hDk_at_876 : Dk ty ad F876 ((s_type g C z3).2) := Dk.fr hDk (fun y8 h8 => hf876 (y8) (by omega))
                            refine wz_icmp_eq (tgt := 991) hx hb d_L_law_879 (by decide) (by omega) (by omega) (by omega) (by omega) (fun c879 => ?_) (fun c879 => ?_)
                            · refine wz_iinc (z := ((i + 6 : Nat) : Int)) (lv' := [(4, .int (iI (((i + 6 : Nat) : Int)))), (0, .ref (b)), (1, .ref (ad (0))), (2, .ref (ad (98))), (3, .ref (ad (104)))]) hx hb d_L_law_991 hl (k := 4) rfl (by omega) (by decide) rfl (fun ls hl => ?_)
                              refine lv_goto (tgt := 23) hx hb d_L_law_994 (by decide) ?_
                              exact ih23 (i + 6) _ _ ((s_type g C z3).2) (0) _ _ _ _ ls (by omega) (by omega) (by omega) (by omega) (hok.type _ _) hDk_at_876 hMo h104_at_876 hw (lv_sub hl [1, 2, 3, 4, 0] rfl)
                            · exact absurd rfl c879
                          · skip
                            by_cases c40_10 : kk = 10
                            · refine wz_tabIn (k := 10) (off := 844) (tgt := 884) hx hb d_L_law_40 c40_10 (by omega) (by omega) (by decide) rfl (by decide) ?_
                              have hwb := hok.2.1
                              refine lv_aload_n hx hb d_L_law_884 rfl (lv_at hl 1 rfl) ?_
                              refine pw_calli hw (va_runV (As := []) (rest := []) ⟨hx, hb, hml, hown, hq⟩ (c_K_wipe l D ty ad M F23 H.size (by omega) g hDk hok) (cwV 0 hq (gV ml_L_98 im_K_wipe se_K_wipe in_K m_K_wipe) rfl rfl rfl (by decide +kernel) ⟨Nat.le_of_ble_eq_true rfl, Nat.le_of_ble_eq_true rfl⟩) (pw_preV hw (by omega) hDk.1 rfl) rfl rfl hl.1 rfl (lv_room (Nat.le_of_ble_eq_true rfl)) d_L_law_885 ⟨by show cn ≤ 601024; omega, by show sn ≤ 7293034; omega⟩) (fun r885 F885 H locs q885 hw => ?_)
                              obtain ⟨er885, hDk, hf885⟩ := q885
                              subst er885
                              have hMo_at_885 : Mo ty ad F885 (co) (g) := Mo.fr hMo (fun y8 h7 h8 => hf885 (y8) (by omega))
                              have h104_at_885 : F885 (104) = .inl (ty 3, 1, .inr (.inl (o0))) := (hf885 (104) (by omega)).trans h104
                              refine lv_aload_n hx hb d_L_law_888 rfl (lv_at hl 2 rfl) ?_
                              refine pw_calli hw (va_runV (As := []) (rest := [.int (iI ((nS g : Int)))]) ⟨hx, hb, hml, hown, hq⟩ (c_M_wipe l D ty ad M F885 H.size (by omega) g (co) hMo_at_885 hok) (cwV 0 hq (gV ml_L_101 im_M_wipe se_M_wipe in_M m_M_wipe) rfl rfl rfl (by decide +kernel) ⟨Nat.le_of_ble_eq_true rfl, Nat.le_of_ble_eq_true rfl⟩) (pw_preV hw (by omega) hMo_at_885.1 rfl) rfl rfl hl.1 rfl (lv_room (Nat.le_of_ble_eq_true rfl)) d_L_law_889 ⟨by show cn ≤ 601024; omega, by show sn ≤ 7293034; omega⟩) (fun r889 F889 H locs q889 hw => ?_)
                              obtain ⟨er889, hMo, hf889⟩ := q889
                              subst er889
                              have h104_at_889 : F889 (104) = .inl (ty 3, 1, .inr (.inl (o0))) := (hf889 (104) (by omega)).trans h104_at_885
                              have hDk_at_889 : Dk ty ad F889 ((zS g, bS g, 0, tS g, pS g)) := Dk.fr hDk (fun y8 h8 => hf889 (y8) (by omega))
                              refine wz_icmp_eq (tgt := 991) hx hb d_L_law_892 (by decide) (by omega) (by omega) (by omega) (by omega) (fun c892 => ?_) (fun c892 => ?_)
                              · refine wz_iinc (z := ((i + 6 : Nat) : Int)) (lv' := [(4, .int (iI (((i + 6 : Nat) : Int)))), (0, .ref (b)), (1, .ref (ad (0))), (2, .ref (ad (98))), (3, .ref (ad (104)))]) hx hb d_L_law_991 hl (k := 4) rfl (by omega) (by decide) rfl (fun ls hl => ?_)
                                refine lv_goto (tgt := 23) hx hb d_L_law_994 (by decide) ?_
                                exact ih23 (i + 6) _ _ ((zS g, bS g, 0, tS g, pS g)) (0) _ _ _ _ ls (by omega) (by omega) (by omega) (by omega) (hok.wipe) hDk_at_889 hMo h104_at_889 hw (lv_sub hl [1, 2, 3, 4, 0] rfl)
                              · exact absurd rfl c892
                            · skip
                              by_cases c40_11 : kk = 11
                              · refine wz_tabIn (k := 11) (off := 857) (tgt := 897) hx hb d_L_law_40 c40_11 (by omega) (by omega) (by decide) rfl (by decide) ?_
                                have htb := tat_b hok.2.2.1 z1
                                refine lv_aload_n hx hb d_L_law_897 rfl (lv_at hl 1 rfl) ?_
                                refine lv_aload_n hx hb d_L_law_898 rfl (lv_at hl 0 rfl) ?_
                                refine lv_iload hx hb d_L_law_899 (lv_at hl 4 rfl) ?_
                                refine wz_iconst (n := 1) hx hb d_L_law_901 ?_
                                refine wz_iadd hx hb d_L_law_902 rfl ?_
                                refine va_sld (i := iI ((i : Int) + 1)) hx hb hX hbl hbA hw.2.2.2.1 (iI_in (by omega) (by omega) (by omega)) d_L_law_903 ?_
                                refine lv_topi (fun x903 ex903 => ?_)
                                obtain rfl : x903 = iI (z1) := ex903.trans (by rw [iI_cl (by omega) (by omega), show ((i : Int) + 1).toNat = i + 1 by omega]; exact e1)
                                refine pw_calli hw (va_runV (As := [.int (iI (z1))]) (rest := []) ⟨hx, hb, hml, hown, hq⟩ (c_K_character l D ty ad M F23 H.size (by omega) g hDk hok z1 hz1) (cwV 1 hq (gV ml_L_102 im_K_character se_K_character in_K m_K_character) rfl rfl rfl (by decide +kernel) ⟨Nat.le_of_ble_eq_true rfl, Nat.le_of_ble_eq_true rfl⟩) (pw_preV hw (by omega) hDk.1 rfl) rfl rfl hl.1 rfl (lv_room (Nat.le_of_ble_eq_true rfl)) d_L_law_904 ⟨by show cn ≤ 601024; omega, by show sn ≤ 7293034; omega⟩) (fun r904 F904 H locs q904 hw => ?_)
                                obtain ⟨er904, eF904⟩ := q904
                                rw [eF904] at hw
                                clear eF904
                                subst er904
                                refine lv_aload_n hx hb d_L_law_907 rfl (lv_at hl 2 rfl) ?_
                                refine lv_aload_n hx hb d_L_law_908 rfl (lv_at hl 0 rfl) ?_
                                refine lv_iload hx hb d_L_law_909 (lv_at hl 4 rfl) ?_
                                refine wz_iconst (n := 1) hx hb d_L_law_911 ?_
                                refine wz_iadd hx hb d_L_law_912 rfl ?_
                                refine va_sld (i := iI ((i : Int) + 1)) hx hb hX hbl hbA hw.2.2.2.1 (iI_in (by omega) (by omega) (by omega)) d_L_law_913 ?_
                                refine lv_topi (fun x913 ex913 => ?_)
                                obtain rfl : x913 = iI (z1) := ex913.trans (by rw [iI_cl (by omega) (by omega), show ((i : Int) + 1).toNat = i + 1 by omega]; exact e1)
                                refine pw_calli hw (va_runV (As := [.int (iI (z1))]) (rest := [.int (iI (tat (tS g) (nS g) z1))]) ⟨hx, hb, hml, hown, hq⟩ (c_M_character l D ty ad M F23 H.size (by omega) g (co) hMo hok z1 hz1) (cwV 1 hq (gV ml_L_105 im_M_character se_M_character in_M m_M_character) rfl rfl rfl (by decide +kernel) ⟨Nat.le_of_ble_eq_true rfl, Nat.le_of_ble_eq_true rfl⟩) (pw_preV hw (by omega) hMo.1 rfl) rfl rfl hl.1 rfl (lv_room (Nat.le_of_ble_eq_true rfl)) d_L_law_914 ⟨by show cn ≤ 601024; omega, by show sn ≤ 7293034; omega⟩) (fun r914 F914 H locs q914 hw => ?_)
                                obtain ⟨er914, hMo, hf914⟩ := q914
                                subst er914
                                have hDk_at_914 : Dk ty ad F914 (g) := Dk.fr hDk (fun y8 h8 => hf914 (y8) (by omega))
                                have h104_at_914 : F914 (104) = .inl (ty 3, 1, .inr (.inl (o0))) := (hf914 (104) (by omega)).trans h104
                                refine wz_icmp_eq (tgt := 991) hx hb d_L_law_917 (by decide) (by omega) (by omega) (by omega) (by omega) (fun c917 => ?_) (fun c917 => ?_)
                                · refine wz_iinc (z := ((i + 6 : Nat) : Int)) (lv' := [(4, .int (iI (((i + 6 : Nat) : Int)))), (0, .ref (b)), (1, .ref (ad (0))), (2, .ref (ad (98))), (3, .ref (ad (104)))]) hx hb d_L_law_991 hl (k := 4) rfl (by omega) (by decide) rfl (fun ls hl => ?_)
                                  refine lv_goto (tgt := 23) hx hb d_L_law_994 (by decide) ?_
                                  exact ih23 (i + 6) _ _ (g) (0) _ _ _ _ ls (by omega) (by omega) (by omega) (by omega) (hok) hDk_at_914 hMo h104_at_914 hw (lv_sub hl [1, 2, 3, 4, 0] rfl)
                                · exact absurd rfl c917
                              · skip
                                by_cases c40_12 : kk = 12
                                · refine wz_tabIn (k := 12) (off := 882) (tgt := 922) hx hb d_L_law_40 c40_12 (by omega) (by omega) (by decide) rfl (by decide) ?_
                                  have hab := (b_read g z1).1
                                  have hbn := (b_read g z1).2
                                  refine lv_aload_n hx hb d_L_law_922 rfl (lv_at hl 1 rfl) ?_
                                  refine lv_aload_n hx hb d_L_law_923 rfl (lv_at hl 0 rfl) ?_
                                  refine lv_iload hx hb d_L_law_924 (lv_at hl 4 rfl) ?_
                                  refine wz_iconst (n := 1) hx hb d_L_law_926 ?_
                                  refine wz_iadd hx hb d_L_law_927 rfl ?_
                                  refine va_sld (i := iI ((i : Int) + 1)) hx hb hX hbl hbA hw.2.2.2.1 (iI_in (by omega) (by omega) (by omega)) d_L_law_928 ?_
                                  refine lv_topi (fun x928 ex928 => ?_)
                                  obtain rfl : x928 = iI (z1) := ex928.trans (by rw [iI_cl (by omega) (by omega), show ((i : Int) + 1).toNat = i + 1 by omega]; exact e1)
                                  refine lv_aload_n hx hb d_L_law_929 rfl (lv_at hl 3 rfl) ?_
                                  refine px_calli hw (vx_runSX (As := [.ref (ad (0)), .int (iI (z1)), .ref (ad (104))]) (rest := []) ⟨hx, hb, hml, hown, hq⟩ (c_L_read l D ty ad M F23 H.size hl0 (by omega) g hDk hok z1 hz1 _ h104) (vx_cwSW 3 hq (gSW ml_L_106 st_L_read in_L m_L_read) rfl rfl rfl (by decide +kernel) ⟨Nat.le_of_ble_eq_true rfl, Nat.le_of_ble_eq_true rfl⟩) (px_preSq hw hxk hNc) rfl rfl hl.1 rfl (lv_room (Nat.le_of_ble_eq_true rfl)) d_L_law_930 ⟨by show cn + 8 ≤ 601024; omega, by show sn + 48 ≤ 7293034; omega⟩) (fun _ _ _ _ _ _ hp9 => hp9.elim) ?_
                                  intro r930 F930 H locs q930 hw
                                  obtain ⟨er930, hDk, ⟨o1, h104, ho1⟩, hf930⟩ := q930
                                  subst er930
                                  have hMo_at_930 : Mo ty ad F930 (co) (g) := Mo.fr hMo (fun y8 h7 h8 => hf930 (y8) (by omega) (by omega))
                                  refine lv_istore (lv' := [(5, .int (iI ((o_read g z1).1))), (0, .ref (b)), (1, .ref (ad (0))), (2, .ref (ad (98))), (3, .ref (ad (104))), (4, .int (iI ((i : Int))))]) hx hb d_L_law_933 hl (by decide) rfl (fun ls hl => ?_)
                                  refine lv_aload_n hx hb d_L_law_935 rfl (lv_at hl 3 rfl) ?_
                                  refine lv_aload_n hx hb d_L_law_936 rfl (lv_at hl 1 rfl) ?_
                                  refine lv_iload hx hb d_L_law_937 (lv_at hl 5 rfl) ?_
                                  refine wz_iconst (n := 1) hx hb d_L_law_939 ?_
                                  refine wz_iadd hx hb d_L_law_940 rfl ?_
                                  refine va_sld (i := iI ((i : Int) + 1)) hx hb hX hbl hbA hw.2.2.2.1 (iI_in (by omega) (by omega) (by omega)) d_L_law_941 ?_
                                  refine lv_topi (fun x941 ex941 => ?_)
                                  obtain rfl : x941 = iI (z1) := ex941.trans (by rw [iI_cl (by omega) (by omega), show ((i : Int) + 1).toNat = i + 1 by omega]; exact e1)
                                  refine pw_calli hw (va_runV (As := [.int (iI (z1))]) (rest := []) ⟨hx, hb, hml, hown, hq⟩ (c_M_read l D ty ad M F930 H.size (by omega) g (co) hMo_at_930 hok z1 hz1) (cwV 1 hq (gV ml_L_108 im_M_read se_M_read in_M m_M_read) rfl rfl rfl (by decide +kernel) ⟨Nat.le_of_ble_eq_true rfl, Nat.le_of_ble_eq_true rfl⟩) (pw_preV hw (by omega) hMo_at_930.1 rfl) rfl rfl hl.1 rfl (lv_room (Nat.le_of_ble_eq_true rfl)) d_L_law_942 ⟨by show cn + 8 ≤ 601024; omega, by show sn + 48 ≤ 7293034; omega⟩) (fun r942 F942 H locs q942 hw => ?_)
                                  obtain ⟨er942, hMo, hf942⟩ := q942
                                  subst er942
                                  have hDk_at_942 : Dk ty ad F942 ((o_read g z1).2.2) := Dk.fr hDk (fun y8 h8 => hf942 (y8) (by omega))
                                  have h104_at_942 : F942 (104) = .inl (ty 3, 1, .inr (.inl (o1))) := (hf942 (104) (by omega)).trans h104
                                  refine lv_istore (lv' := [(6, .int (iI ((o_read g z1).2.1))), (5, .int (iI ((o_read g z1).1))), (0, .ref (b)), (1, .ref (ad (0))), (2, .ref (ad (98))), (3, .ref (ad (104))), (4, .int (iI ((i : Int))))]) hx hb d_L_law_945 hl (by decide) rfl (fun ls hl => ?_)
                                  refine lv_aload_n hx hb d_L_law_947 rfl (lv_at hl 4 rfl) ?_
                                  refine pw_calli hw (va_runV (As := []) (rest := []) ⟨hx, hb, hml, hown, hq⟩ (c_M_thrown l D ty ad M F942 H.size (by omega) _ _ _ hMo.1) (cwV 0 hq (gV ml_L_61 im_M_thrown se_M_thrown in_M m_M_thrown) rfl rfl rfl (by decide +kernel) ⟨Nat.le_of_ble_eq_true rfl, Nat.le_of_ble_eq_true rfl⟩) (pw_preV hw (by omega) hMo.1 rfl) rfl rfl hl.1 rfl (lv_room (Nat.le_of_ble_eq_true rfl)) d_L_law_948 ⟨by show cn + 8 ≤ 601024; omega, by show sn + 48 ≤ 7293034; omega⟩) (fun r948 F948 H locs q948 hw => ?_)
                                  obtain ⟨er948, eF948⟩ := q948
                                  rw [eF948] at hw
                                  clear eF948
                                  subst er948
                                  refine lv_iload hx hb d_L_law_951 (lv_at hl 1 rfl) ?_
                                  refine wz_icmp_eq (tgt := 958) hx hb d_L_law_953 (by decide) (by omega) (by omega) (by omega) (by omega) (fun c953 => ?_) (fun c953 => ?_)
                                  · refine lv_iload hx hb d_L_law_958 (lv_at hl 1 rfl) ?_
                                    refine wz_if_ne (tgt := 975) hx hb d_L_law_960 (by decide) (by omega) (by omega) (fun c960 => ?_) (fun c960 => ?_)
                                    · refine lv_goto (tgt := 991) hx hb d_L_law_975 (by decide) ?_
                                      refine wz_iinc (z := ((i + 6 : Nat) : Int)) (lv' := [(4, .int (iI (((i + 6 : Nat) : Int)))), (6, .int (iI ((o_read g z1).2.1))), (5, .int (iI ((o_read g z1).1))), (0, .ref (b)), (1, .ref (ad (0))), (2, .ref (ad (98))), (3, .ref (ad (104)))]) hx hb d_L_law_991 hl (k := 6) rfl (by omega) (by decide) rfl (fun ls hl => ?_)
                                      refine lv_goto (tgt := 23) hx hb d_L_law_994 (by decide) ?_
                                      exact ih23 (i + 6) _ _ ((o_read g z1).2.2) ((o_read g z1).1) _ _ _ _ ls (by omega) (by omega) (by omega) (by omega) (hok.read _) hDk_at_942 hMo h104_at_942 hw (lv_sub hl [3, 4, 5, 6, 0] rfl)
                                    · refine lv_aload_n hx hb d_L_law_963 rfl (lv_at hl 5 rfl) ?_
                                      refine wz_iconst (n := 0) hx hb d_L_law_964 ?_
                                      refine pw_lald (k := 0) hx hb hw 3 (by omega) h104_at_942 rfl (iI_in (by omega) (by omega) (by omega)) ((iI_cl (by omega) (by omega)).trans (by omega)) d_L_law_965 ?_
                                      refine lv_topl (fun x965 ex965 => ?_)
                                      obtain rfl : x965 = iL ((o_read g z1).2.1) := ex965.trans (ho1 (by omega))
                                      refine lv_iload hx hb d_L_law_966 (lv_at hl 0 rfl) ?_
                                      refine wz_i2l hx hb d_L_law_968 (hbn.1) (hbn.2) ?_
                                      refine wz_lcmp_eq (tgt := 975) hx hb d_L_law_969 d_L_law_970 (by decide) (by omega) (by omega) (by omega) (by omega) (fun c969 => ?_) (fun c969 => ?_)
                                      · refine lv_goto (tgt := 991) hx hb d_L_law_975 (by decide) ?_
                                        refine wz_iinc (z := ((i + 6 : Nat) : Int)) (lv' := [(4, .int (iI (((i + 6 : Nat) : Int)))), (6, .int (iI ((o_read g z1).2.1))), (5, .int (iI ((o_read g z1).1))), (0, .ref (b)), (1, .ref (ad (0))), (2, .ref (ad (98))), (3, .ref (ad (104)))]) hx hb d_L_law_991 hl (k := 6) rfl (by omega) (by decide) rfl (fun ls hl => ?_)
                                        refine lv_goto (tgt := 23) hx hb d_L_law_994 (by decide) ?_
                                        exact ih23 (i + 6) _ _ ((o_read g z1).2.2) ((o_read g z1).1) _ _ _ _ ls (by omega) (by omega) (by omega) (by omega) (hok.read _) hDk_at_942 hMo h104_at_942 hw (lv_sub hl [3, 4, 5, 6, 0] rfl)
                                      · exact absurd rfl c969
                                  · exact absurd rfl c953
                                · skip
                                  by_cases c40_13 : kk = 13
                                  · refine wz_tabIn (k := 13) (off := 938) (tgt := 978) hx hb d_L_law_40 c40_13 (by omega) (by omega) (by decide) rfl (by decide) ?_
                                    have hpb := hok.2.2.2
                                    refine lv_aload_n hx hb d_L_law_978 rfl (lv_at hl 1 rfl) ?_
                                    refine pw_calli hw (va_runV (As := []) (rest := []) ⟨hx, hb, hml, hown, hq⟩ (c_K_place l D ty ad M F23 H.size (by omega) g hDk hok) (cwV 0 hq (gV ml_L_109 im_K_place se_K_place in_K m_K_place) rfl rfl rfl (by decide +kernel) ⟨Nat.le_of_ble_eq_true rfl, Nat.le_of_ble_eq_true rfl⟩) (pw_preV hw (by omega) hDk.1 rfl) rfl rfl hl.1 rfl (lv_room (Nat.le_of_ble_eq_true rfl)) d_L_law_979 ⟨by show cn ≤ 601024; omega, by show sn ≤ 7293034; omega⟩) (fun r979 F979 H locs q979 hw => ?_)
                                    obtain ⟨er979, eF979⟩ := q979
                                    rw [eF979] at hw
                                    clear eF979
                                    subst er979
                                    refine lv_aload_n hx hb d_L_law_982 rfl (lv_at hl 2 rfl) ?_
                                    refine pw_calli hw (va_runV (As := []) (rest := [.int (iI (pS g))]) ⟨hx, hb, hml, hown, hq⟩ (c_M_place l D ty ad M F23 H.size (by omega) g (co) hMo hok) (cwV 0 hq (gV ml_L_112 im_M_place se_M_place in_M m_M_place) rfl rfl rfl (by decide +kernel) ⟨Nat.le_of_ble_eq_true rfl, Nat.le_of_ble_eq_true rfl⟩) (pw_preV hw (by omega) hMo.1 rfl) rfl rfl hl.1 rfl (lv_room (Nat.le_of_ble_eq_true rfl)) d_L_law_983 ⟨by show cn ≤ 601024; omega, by show sn ≤ 7293034; omega⟩) (fun r983 F983 H locs q983 hw => ?_)
                                    obtain ⟨er983, hMo, hf983⟩ := q983
                                    subst er983
                                    have hDk_at_983 : Dk ty ad F983 (g) := Dk.fr hDk (fun y8 h8 => hf983 (y8) (by omega))
                                    have h104_at_983 : F983 (104) = .inl (ty 3, 1, .inr (.inl (o0))) := (hf983 (104) (by omega)).trans h104
                                    refine wz_icmp_eq (tgt := 991) hx hb d_L_law_986 (by decide) (by omega) (by omega) (by omega) (by omega) (fun c986 => ?_) (fun c986 => ?_)
                                    · refine wz_iinc (z := ((i + 6 : Nat) : Int)) (lv' := [(4, .int (iI (((i + 6 : Nat) : Int)))), (0, .ref (b)), (1, .ref (ad (0))), (2, .ref (ad (98))), (3, .ref (ad (104)))]) hx hb d_L_law_991 hl (k := 4) rfl (by omega) (by decide) rfl (fun ls hl => ?_)
                                      refine lv_goto (tgt := 23) hx hb d_L_law_994 (by decide) ?_
                                      exact ih23 (i + 6) _ _ (g) (0) _ _ _ _ ls (by omega) (by omega) (by omega) (by omega) (hok) hDk_at_983 hMo h104_at_983 hw (lv_sub hl [1, 2, 3, 4, 0] rfl)
                                    · exact absurd rfl c986
                                  · skip
                                    refine wz_tabOut (tgt := 991) hx hb d_L_law_40 (by omega) (by omega) (by omega) (by decide) ?_
                                    refine wz_iinc (z := ((i + 6 : Nat) : Int)) (lv' := [(4, .int (iI (((i + 6 : Nat) : Int)))), (0, .ref (b)), (1, .ref (ad (0))), (2, .ref (ad (98))), (3, .ref (ad (104)))]) hx hb d_L_law_991 hl (k := 4) rfl (by omega) (by decide) rfl (fun ls hl => ?_)
                                    refine lv_goto (tgt := 23) hx hb d_L_law_994 (by decide) ?_
                                    exact ih23 (i + 6) _ _ (g) (co) _ _ _ _ ls (by omega) (by omega) (by omega) (by omega) (hok) hDk hMo h104 hw (lv_sub hl [1, 2, 3, 4, 0] rfl)
  exact K23 _ i0 cn0 sn0 g0 co0 oo _ _ _ ls (Nat.lt_succ_self _) (hi0) (hcn0) (hsn0) (hok0) hDk hMo h104 hw hl
