/-! Whole: becomeProduct, becomeMix: by program -/
set_option maxHeartbeats 4000000 in
set_option maxRecDepth 100000 in
/-- Whole.becomeProduct(a, b) -/
theorem c_W_becomeProduct (l : Launch) (D : va_G) (ty : Nat → ClassId) (ad : Nat → Nat) (M : Nat) (F : Nat → va_E) (sz : Nat) (t a b N Na Nb va vb Ka Kb : Nat) (hMt : t + 1 < M) (hMa : a + 1 < M) (hMb : b + 1 < M) (hN : N < 1000) (hNa : Na < 1000) (hNb : Nb < 1000) (hta : a ≠ t ∧ a ≠ t + 1 ∧ a + 1 ≠ t) (htb : b ≠ t ∧ b ≠ t + 1 ∧ b + 1 ≠ t) (hva : va < 2147483648 ^ Ka) (hvb : vb < 2147483648 ^ Kb) (hK : Ka + Kb ≤ N) (h : Wa ty ad F t N) (ha : Wv ty ad F a Na va) (hb0 : Wv ty ad F b Nb vb) :
    CV l y_W_becomeProduct w_W_becomeProduct ({ frames := 2, cells := 0, slots := 0, locals := 46 } : Room) [.ref (ad (t)), .ref (ad (a)), .ref (ad (b))] D ty ad M F sz (fun F1 => Wv ty ad F1 t N (va * vb) ∧ fr2 F F1 t) := by
  refine Met.ofW (cc := b_W_becomeProduct) (maxL := 12) (ret := none) (by decide) rfl ?_
  intro p e s m args below meth c s₁ B hml hv
  obtain ⟨rfl, hsz, hP, hK, hD0⟩ := hv
  have hx := B.exec
  have hb := B.bytes
  have hr := B.returns
  have hts := atoms_spec (ws := w_W_becomeProduct) B.pre
  have hq : ∀ w ∈ wT, w.before _ s = true := fun w h => hts w (List.mem_cons_of_mem _ h)
  have hown : s.vm.findClass R_W = some m.cls := findClass_of_methodNamed B.named
  have hlocks := B.notSynchronized
  subst hsz
  have hw := pw_start hP hK hD0
  have hl := lv_entry ([.ref (ad (t)), .ref (ad (a)), .ref (ad (b))]) (n := 12) (Nat.le_of_ble_eq_true rfl)
  rw [lg_entry_eq]
  generalize (lg_sl ([.ref (ad (t)), .ref (ad (a)), .ref (ad (b))]) ++ List.replicate (12 - (lg_sl ([.ref (ad (t)), .ref (ad (a)), .ref (ad (b))])).length) Slot.unset).toArray = ls at hl ⊢
  have hl : lv_has ls 12 [(0, .ref (ad (t))), (1, .ref (ad (a))), (2, .ref (ad (b)))] := hl
  change W p l e ({ frames := 2, cells := 0, slots := 0, locals := 46 } : Room) s m ([.ref (ad (t)), .ref (ad (a)), .ref (ad (b))]).toArray below meth c s.heap [] 0 0 (MQ below (va_Qv (fun F1 => Wv ty ad F1 t N (va * vb) ∧ fr2 F F1 t) (pAt D classes (tysL ty) ad M (pA ad M s.heap.size)) (pA ad M s.heap.size)) ([.ref (ad (t)), .ref (ad (a)), .ref (ad (b))]).toArray s 0 0 (pA ad M s.heap.size)) (F0 m 0 ls [])
  generalize hQ : MQ below (va_Qv (fun F1 => Wv ty ad F1 t N (va * vb) ∧ fr2 F F1 t) (pAt D classes (tysL ty) ad M (pA ad M s.heap.size)) (pA ad M s.heap.size)) ([.ref (ad (t)), .ref (ad (a)), .ref (ad (b))]).toArray s 0 0 (pA ad M s.heap.size) = Q
  obtain ⟨H, hH⟩ : ∃ H, H = s.heap := ⟨_, rfl⟩
  obtain ⟨locs, hlo⟩ : ∃ z : List Loc, z = [] := ⟨_, rfl⟩
  have hw : pw D classes (tysL ty) ad M F (pA ad M s.heap.size) s H locs := by rw [hH, hlo]; exact hw
  have hgo : W p l e ({ frames := 2, cells := 0, slots := 0, locals := 46 } : Room) s m ([.ref (ad (t)), .ref (ad (a)), .ref (ad (b))]).toArray below meth c H locs 0 0 Q (F0 m 0 ls []) := by
    obtain ⟨nt, gt, hO_t, hA_t⟩ := h
    obtain ⟨na, ga, ⟨hO_a, hA_a⟩, hoka⟩ := ha
    obtain ⟨nb, gb, ⟨hO_b, hA_b⟩, hokb⟩ := hb0
    have hna := hoka.1
    have hnb := hokb.1
    have hka := hoka.fits hva
    have hkb := hokb.fits hvb
    have hda := hoka.2.1
    have hdb := hokb.2.1
    refine lv_aload_n hx hb d_W_becomeProduct_0 rfl (lv_at hl 1 rfl) ?_
    refine pw_get (ci := 0) (C := R_W) (T := T_W) (N := 2) hx hb hq i_W hown hw (by omega) hO_a rfl 1 (by decide) (hq _ fl_W_21) (fun _ h9 => h9) rfl d_W_becomeProduct_1 ?_
    refine lv_aload_n hx hb d_W_becomeProduct_4 rfl (lv_at hl 2 rfl) ?_
    refine pw_get (ci := 0) (C := R_W) (T := T_W) (N := 2) hx hb hq i_W hown hw (by omega) hO_b rfl 1 (by decide) (hq _ fl_W_21) (fun _ h9 => h9) rfl d_W_becomeProduct_5 ?_
    refine wz_iadd (z := ((na + nb : Nat) : Int)) hx hb d_W_becomeProduct_8 (by omega) ?_
    refine lv_istore_n (lv' := [(3, .int (iI (((na + nb : Nat) : Int)))), (0, .ref (ad (t))), (1, .ref (ad (a))), (2, .ref (ad (b)))]) hx hb d_W_becomeProduct_9 rfl hl (by decide) rfl (fun ls hl => ?_)
    refine lv_iload_n hx hb d_W_becomeProduct_10 rfl (lv_at hl 0 rfl) ?_
    refine lv_aload_n hx hb d_W_becomeProduct_11 rfl (lv_at hl 1 rfl) ?_
    refine pw_get (ci := 0) (C := R_W) (T := T_W) (N := 2) hx hb hq i_W hown hw (by omega) hO_t rfl 0 (by decide) (hq _ fl_W_17) (fun _ h9 => h9) rfl d_W_becomeProduct_12 ?_
    refine pw_alen (v := iI ((N : Nat) : Int)) hx hb hw 0 (by omega) hA_t rfl (iI_nat _).symm d_W_becomeProduct_15 ?_
    refine wz_icmp_le (tgt := 25) hx hb d_W_becomeProduct_16 (by decide) (by omega) (by omega) (by omega) (by omega) (fun c16 => ?_) (fun c16 => ?_)
    · refine wz_iconst (n := 0) hx hb d_W_becomeProduct_25 ?_
      refine lv_istore (lv' := [(4, .int (iI (0))), (3, .int (iI (((na + nb : Nat) : Int)))), (0, .ref (ad (t))), (1, .ref (ad (a))), (2, .ref (ad (b)))]) hx hb d_W_becomeProduct_26 hl (by decide) rfl (fun ls hl => ?_)
      have K28 : ∀ (fuel : Nat) (j : Nat) (gx : Nat → Int32) (F28 : Nat → va_E) (H : Heap) (locs : List Loc) (ls : Array Slot), nb - j < fuel → (j ≤ nb) → (∀ i, i < j → dl gx i = 0) → (fr2 F F28 t) → F28 (t) = .inr (0, [.ref (ad (t + 1)), .int (iI ((nt : Int)))]) → F28 (t + 1) = .inl (ty 0, N, .inl (gx)) → F28 (a) = .inr (0, [.ref (ad (a + 1)), .int (iI ((na : Int)))]) → F28 (a + 1) = .inl (ty 0, Na, .inl (ga)) → F28 (b) = .inr (0, [.ref (ad (b + 1)), .int (iI ((nb : Int)))]) → F28 (b + 1) = .inl (ty 0, Nb, .inl (gb)) → pw D classes (tysL ty) ad M F28 (pA ad M s.heap.size) s H locs → lv_has ls 12 [(4, .int (iI ((j : Int)))), (3, .int (iI (((na + nb : Nat) : Int)))), (0, .ref (ad (t))), (1, .ref (ad (a))), (2, .ref (ad (b)))] → W p l e ({ frames := 2, cells := 0, slots := 0, locals := 46 } : Room) s m ([.ref (ad (t)), .ref (ad (a)), .ref (ad (b))]).toArray below meth c H locs 0 0 Q (F0 m 28 ls []) := by
        intro fuel
        induction fuel with
        | zero => intro j gx F28 H locs ls hfuel hj hz hfr hO_t hA_t hO_a hA_a hO_b hA_b hw hl; exact absurd hfuel (Nat.not_lt_zero _)
        | succ fuel ih28 =>
          intro j gx F28 H locs ls hfuel hj hz hfr hO_t hA_t hO_a hA_a hO_b hA_b hw hl
          refine lv_iload hx hb d_W_becomeProduct_28 (lv_at hl 0 rfl) ?_
          refine lv_aload_n hx hb d_W_becomeProduct_30 rfl (lv_at hl 4 rfl) ?_
          refine pw_get (ci := 0) (C := R_W) (T := T_W) (N := 2) hx hb hq i_W hown hw (by omega) hO_b rfl 1 (by decide) (hq _ fl_W_21) (fun _ h9 => h9) rfl d_W_becomeProduct_31 ?_
          refine wz_icmp_ge (tgt := 51) hx hb d_W_becomeProduct_34 (by decide) (by omega) (by omega) (by omega) (by omega) (fun c34 => ?_) (fun c34 => ?_)
          · have hjn : nb = j := by omega
            subst hjn
            refine wz_iconst (n := 0) hx hb d_W_becomeProduct_51 ?_
            refine lv_istore (lv' := [(4, .int (iI (0))), (3, .int (iI (((na + nb : Nat) : Int)))), (0, .ref (ad (t))), (1, .ref (ad (a))), (2, .ref (ad (b)))]) hx hb d_W_becomeProduct_52 hl (by decide) rfl (fun ls hl => ?_)
            have K54 : ∀ (fuel : Nat) (i : Nat) (gx : Nat → Int32) (F54 : Nat → va_E) (H : Heap) (locs : List Loc) (ls : Array Slot), na - i < fuel → (i ≤ na) → (bv 2147483648 (dl gx) (i + nb) = bv 2147483648 (dl ga) i * vb) → (∀ j, j < i + nb → dl gx j < 2147483648) → (fr2 F F54 t) → F54 (t) = .inr (0, [.ref (ad (t + 1)), .int (iI ((nt : Int)))]) → F54 (t + 1) = .inl (ty 0, N, .inl (gx)) → F54 (a) = .inr (0, [.ref (ad (a + 1)), .int (iI ((na : Int)))]) → F54 (a + 1) = .inl (ty 0, Na, .inl (ga)) → F54 (b) = .inr (0, [.ref (ad (b + 1)), .int (iI ((nb : Int)))]) → F54 (b + 1) = .inl (ty 0, Nb, .inl (gb)) → pw D classes (tysL ty) ad M F54 (pA ad M s.heap.size) s H locs → lv_has ls 12 [(4, .int (iI ((i : Int)))), (3, .int (iI (((na + nb : Nat) : Int)))), (0, .ref (ad (t))), (1, .ref (ad (a))), (2, .ref (ad (b)))] → W p l e ({ frames := 2, cells := 0, slots := 0, locals := 46 } : Room) s m ([.ref (ad (t)), .ref (ad (a)), .ref (ad (b))]).toArray below meth c H locs 0 0 Q (F0 m 54 ls []) := by
              intro fuel
              induction fuel with
              | zero => intro i gx F54 H locs ls hfuel hi hinv hdig hfr hO_t hA_t hO_a hA_a hO_b hA_b hw hl; exact absurd hfuel (Nat.not_lt_zero _)
              | succ fuel ih54 =>
                intro i gx F54 H locs ls hfuel hi hinv hdig hfr hO_t hA_t hO_a hA_a hO_b hA_b hw hl
                refine lv_iload hx hb d_W_becomeProduct_54 (lv_at hl 0 rfl) ?_
                refine lv_aload_n hx hb d_W_becomeProduct_56 rfl (lv_at hl 3 rfl) ?_
                refine pw_get (ci := 0) (C := R_W) (T := T_W) (N := 2) hx hb hq i_W hown hw (by omega) hO_a rfl 1 (by decide) (hq _ fl_W_21) (fun _ h9 => h9) rfl d_W_becomeProduct_57 ?_
                refine wz_icmp_ge (tgt := 167) hx hb d_W_becomeProduct_60 (by decide) (by omega) (by omega) (by omega) (by omega) (fun c60 => ?_) (fun c60 => ?_)
                · have hin : na = i := by omega
                  subst hin
                  rw [hoka.2.2.2] at hinv
                  refine lv_aload_n hx hb d_W_becomeProduct_167 rfl (lv_at hl 2 rfl) ?_
                  refine lv_iload_n hx hb d_W_becomeProduct_168 rfl (lv_at hl 1 rfl) ?_
                  refine pw_callv hw (va_runV (As := [.int (iI (((na + nb : Nat) : Int)))]) (rest := []) ⟨hx, hb, hml, hown, hq⟩ (c_W_trim l D ty ad M F54 H.size t N (na + nb) nt gx hMt hN (by omega) hO_t hA_t) (cwV 1 hq (gV ml_W_48 im_W_trim se_W_trim in_W m_W_trim) rfl rfl rfl (by decide +kernel) ⟨Nat.le_of_ble_eq_true rfl, Nat.le_of_ble_eq_true rfl⟩) (pw_preV hw (by omega) hO_t rfl) rfl rfl hl.1 rfl (lv_room (Nat.le_of_ble_eq_true rfl)) d_W_becomeProduct_169 ⟨Nat.le_of_ble_eq_true rfl, Nat.le_of_ble_eq_true rfl⟩) (fun F169 H locs q169 hw => ?_)
                  obtain ⟨k, hk1, hk2, hk3, eF169⟩ := q169
                  have hA_t_at_169 : F169 (t + 1) = .inl (ty 0, N, .inl (gx)) := (show F169 (t + 1) = F54 (t + 1) from by rw [eF169]; exact va_up_ne _ _ (by omega)).trans hA_t
                  have hO_a_at_169 : F169 (a) = .inr (0, [.ref (ad (a + 1)), .int (iI ((na : Int)))]) := (show F169 (a) = F54 (a) from by rw [eF169]; exact va_up_ne _ _ (by omega)).trans hO_a
                  have hA_a_at_169 : F169 (a + 1) = .inl (ty 0, Na, .inl (ga)) := (show F169 (a + 1) = F54 (a + 1) from by rw [eF169]; exact va_up_ne _ _ (by omega)).trans hA_a
                  have hO_b_at_169 : F169 (b) = .inr (0, [.ref (ad (b + 1)), .int (iI ((nb : Int)))]) := (show F169 (b) = F54 (b) from by rw [eF169]; exact va_up_ne _ _ (by omega)).trans hO_b
                  have hA_b_at_169 : F169 (b + 1) = .inl (ty 0, Nb, .inl (gb)) := (show F169 (b + 1) = F54 (b + 1) from by rw [eF169]; exact va_up_ne _ _ (by omega)).trans hA_b
                  rw [← hQ]
                  exact pw_vret hx hb hr hlocks hw (⟨⟨k, gx, ⟨by rw [eF169]; exact va_up_self .., hA_t_at_169⟩, by rw [← hinv]; exact Wok.trim (by omega) hk1 hdig hk2 hk3⟩, fun y h1 h2 => by rw [eF169, va_up_ne _ _ h1]; exact hfr y h1 h2⟩) d_W_becomeProduct_172
                · refine lv_aload_n hx hb d_W_becomeProduct_63 rfl (lv_at hl 3 rfl) ?_
                  refine pw_get (ci := 0) (C := R_W) (T := T_W) (N := 2) hx hb hq i_W hown hw (by omega) hO_a rfl 0 (by decide) (hq _ fl_W_17) (fun _ h9 => h9) rfl d_W_becomeProduct_64 ?_
                  refine lv_iload hx hb d_W_becomeProduct_67 (lv_at hl 0 rfl) ?_
                  refine pw_iald (k := i) hx hb hw 0 (by omega) hA_a rfl (iI_in (by omega) (by omega) (by omega)) ((iI_cl (by omega) (by omega)).trans (by omega)) d_W_becomeProduct_69 ?_
                  refine lv_topi (fun x69 ex69 => ?_)
                  obtain rfl : x69 = iI ((dl ga i : Int)) := ex69.trans (dl_get (hda i (by omega)))
                  have hdai := hda i (by omega)
                  refine wz_i2l hx hb d_W_becomeProduct_70 (by omega) (by omega) ?_
                  refine lv_lstore (lv' := [(5, .long (iL ((dl ga i : Int)))), (4, .int (iI ((i : Int)))), (3, .int (iI (((na + nb : Nat) : Int)))), (0, .ref (ad (t))), (1, .ref (ad (a))), (2, .ref (ad (b)))]) hx hb d_W_becomeProduct_71 hl (by decide) rfl (fun ls hl => ?_)
                  refine lv_lconst (v := iL 0) hx hb d_W_becomeProduct_73 (by decide) ?_
                  refine lv_lstore (lv' := [(7, .long (iL (0))), (5, .long (iL ((dl ga i : Int)))), (4, .int (iI ((i : Int)))), (3, .int (iI (((na + nb : Nat) : Int)))), (0, .ref (ad (t))), (1, .ref (ad (a))), (2, .ref (ad (b)))]) hx hb d_W_becomeProduct_74 hl (by decide) rfl (fun ls hl => ?_)
                  refine wz_iconst (n := 0) hx hb d_W_becomeProduct_76 ?_
                  refine lv_istore (lv' := [(9, .int (iI (0))), (7, .long (iL (0))), (5, .long (iL ((dl ga i : Int)))), (4, .int (iI ((i : Int)))), (3, .int (iI (((na + nb : Nat) : Int)))), (0, .ref (ad (t))), (1, .ref (ad (a))), (2, .ref (ad (b)))]) hx hb d_W_becomeProduct_77 hl (by decide) rfl (fun ls hl => ?_)
                  have K79 : ∀ (fuel : Nat) (j cy : Nat) (gy : Nat → Int32) (F79 : Nat → va_E) (H : Heap) (locs : List Loc) (ls : Array Slot), nb - j < fuel → (j ≤ nb) → (bv 2147483648 (fun t => dl gy (i + t)) j + cy * 2147483648 ^ j = bv 2147483648 (fun t => dl gx (i + t)) j + dl ga i * bv 2147483648 (dl gb) j) → (cy < 2147483648) → (∀ k, k < i + nb → dl gy k < 2147483648) → (∀ k, k < i ∨ i + j ≤ k → gy k = gx k) → (fr2 F F79 t) → F79 (t) = .inr (0, [.ref (ad (t + 1)), .int (iI ((nt : Int)))]) → F79 (t + 1) = .inl (ty 0, N, .inl (gy)) → F79 (a) = .inr (0, [.ref (ad (a + 1)), .int (iI ((na : Int)))]) → F79 (a + 1) = .inl (ty 0, Na, .inl (ga)) → F79 (b) = .inr (0, [.ref (ad (b + 1)), .int (iI ((nb : Int)))]) → F79 (b + 1) = .inl (ty 0, Nb, .inl (gb)) → pw D classes (tysL ty) ad M F79 (pA ad M s.heap.size) s H locs → lv_has ls 12 [(9, .int (iI ((j : Int)))), (7, .long (iL ((cy : Int)))), (5, .long (iL ((dl ga i : Int)))), (4, .int (iI ((i : Int)))), (3, .int (iI (((na + nb : Nat) : Int)))), (0, .ref (ad (t))), (1, .ref (ad (a))), (2, .ref (ad (b)))] → W p l e ({ frames := 2, cells := 0, slots := 0, locals := 46 } : Room) s m ([.ref (ad (t)), .ref (ad (a)), .ref (ad (b))]).toArray below meth c H locs 0 0 Q (F0 m 79 ls []) := by
                    intro fuel
                    induction fuel with
                    | zero => intro j cy gy F79 H locs ls hfuel hj hinv2 hc hd2 hs2 hfr hO_t hA_t hO_a hA_a hO_b hA_b hw hl; exact absurd hfuel (Nat.not_lt_zero _)
                    | succ fuel ih79 =>
                      intro j cy gy F79 H locs ls hfuel hj hinv2 hc hd2 hs2 hfr hO_t hA_t hO_a hA_a hO_b hA_b hw hl
                      refine lv_iload hx hb d_W_becomeProduct_79 (lv_at hl 0 rfl) ?_
                      refine lv_aload_n hx hb d_W_becomeProduct_81 rfl (lv_at hl 7 rfl) ?_
                      refine pw_get (ci := 0) (C := R_W) (T := T_W) (N := 2) hx hb hq i_W hown hw (by omega) hO_b rfl 1 (by decide) (hq _ fl_W_21) (fun _ h9 => h9) rfl d_W_becomeProduct_82 ?_
                      refine wz_icmp_ge (tgt := 146) hx hb d_W_becomeProduct_85 (by decide) (by omega) (by omega) (by omega) (by omega) (fun c85 => ?_) (fun c85 => ?_)
                      · have hjn : nb = j := by omega
                        subst hjn
                        rw [hokb.2.2.2] at hinv2
                        refine lv_aload_n hx hb d_W_becomeProduct_146 rfl (lv_at hl 5 rfl) ?_
                        refine pw_get (ci := 0) (C := R_W) (T := T_W) (N := 2) hx hb hq i_W hown hw (by omega) hO_t rfl 0 (by decide) (hq _ fl_W_17) (fun _ h9 => h9) rfl d_W_becomeProduct_147 ?_
                        refine lv_iload hx hb d_W_becomeProduct_150 (lv_at hl 3 rfl) ?_
                        refine lv_aload_n hx hb d_W_becomeProduct_152 rfl (lv_at hl 7 rfl) ?_
                        refine pw_get (ci := 0) (C := R_W) (T := T_W) (N := 2) hx hb hq i_W hown hw (by omega) hO_b rfl 1 (by decide) (hq _ fl_W_21) (fun _ h9 => h9) rfl d_W_becomeProduct_153 ?_
                        refine wz_iadd (z := ((i + nb : Nat) : Int)) hx hb d_W_becomeProduct_156 (by omega) ?_
                        refine lv_lload hx hb d_W_becomeProduct_157 (lv_at hl 1 rfl) ?_
                        refine wz_l2i hx hb d_W_becomeProduct_159 ?_
                        refine pw_iast (k := i + nb) hx hb hw 0 (by omega) hA_t rfl (iI_in (by omega) (by omega) (by omega)) ((iI_cl (by omega) (by omega)).trans (by omega)) d_W_becomeProduct_160 (fun F160 H locs eF160 hw => ?_)
                        obtain ⟨gv, egv⟩ : ∃ z, z = upd gy (i + nb) (iI ((cy : Int))) := ⟨_, rfl⟩
                        rw [← egv] at eF160
                        have m160_t1 : F160 (t + 1) = .inl (ty 0, N, .inl (gv)) := by rw [eF160]; exact va_up_self ..
                        have hO_t_at_160 : F160 (t) = .inr (0, [.ref (ad (t + 1)), .int (iI ((nt : Int)))]) := (show F160 (t) = F79 (t) from by rw [eF160]; exact va_up_ne _ _ (by omega)).trans hO_t
                        have hO_a_at_160 : F160 (a) = .inr (0, [.ref (ad (a + 1)), .int (iI ((na : Int)))]) := (show F160 (a) = F79 (a) from by rw [eF160]; exact va_up_ne _ _ (by omega)).trans hO_a
                        have hA_a_at_160 : F160 (a + 1) = .inl (ty 0, Na, .inl (ga)) := (show F160 (a + 1) = F79 (a + 1) from by rw [eF160]; exact va_up_ne _ _ (by omega)).trans hA_a
                        have hO_b_at_160 : F160 (b) = .inr (0, [.ref (ad (b + 1)), .int (iI ((nb : Int)))]) := (show F160 (b) = F79 (b) from by rw [eF160]; exact va_up_ne _ _ (by omega)).trans hO_b
                        have hA_b_at_160 : F160 (b + 1) = .inl (ty 0, Nb, .inl (gb)) := (show F160 (b + 1) = F79 (b + 1) from by rw [eF160]; exact va_up_ne _ _ (by omega)).trans hA_b
                        refine wz_iinc (z := ((i + 1 : Nat) : Int)) (lv' := [(4, .int (iI (((i + 1 : Nat) : Int)))), (9, .int (iI ((nb : Int)))), (7, .long (iL ((cy : Int)))), (5, .long (iL ((dl ga i : Int)))), (3, .int (iI (((na + nb : Nat) : Int)))), (0, .ref (ad (t))), (1, .ref (ad (a))), (2, .ref (ad (b)))]) hx hb d_W_becomeProduct_161 hl (k := 3) rfl (by omega) (by decide) rfl (fun ls hl => ?_)
                        refine lv_goto (tgt := 54) hx hb d_W_becomeProduct_164 (by decide) ?_
                        exact ih54 (i + 1) gv _ _ _ ls (by omega) (by omega) (by rw [← hokb.2.2.2] at hinv hinv2 ⊢; exact pr_out hinv hinv2 (fun k hk => by show (gy k).toBitVec.toNat = _; rw [hs2 k (Or.inl hk)]; rfl) (by rw [egv]; exact dl_us (by omega)) (fun k hk => by rw [egv]; exact dl_un (by omega))) (fun k h1 => by
                          rcases Nat.lt_or_ge k (i + nb) with h2 | h2
                          · rw [egv, dl_un (by omega)]; exact hd2 k h2
                          · rw [show k = i + nb by omega, egv, dl_us (by omega)]; exact hc) (fun y h1 h2 => by rw [eF160, va_up_ne _ _ h2]; exact hfr y h1 h2) hO_t_at_160 m160_t1 hO_a_at_160 hA_a_at_160 hO_b_at_160 hA_b_at_160 hw (lv_sub hl [0, 4, 5, 6, 7] rfl)
                      · have hdbj := hdb j (by omega)
                        have hdxj := hdig (i + j) (by omega)
                        have hm1 : dl ga i * dl gb j ≤ 2147483647 * 2147483647 := Nat.mul_le_mul (by omega) (by omega)
                        refine lv_lload hx hb d_W_becomeProduct_88 (lv_at hl 2 rfl) ?_
                        refine lv_aload_n hx hb d_W_becomeProduct_90 rfl (lv_at hl 7 rfl) ?_
                        refine pw_get (ci := 0) (C := R_W) (T := T_W) (N := 2) hx hb hq i_W hown hw (by omega) hO_b rfl 0 (by decide) (hq _ fl_W_17) (fun _ h9 => h9) rfl d_W_becomeProduct_91 ?_
                        refine lv_iload hx hb d_W_becomeProduct_94 (lv_at hl 0 rfl) ?_
                        refine pw_iald (k := j) hx hb hw 0 (by omega) hA_b rfl (iI_in (by omega) (by omega) (by omega)) ((iI_cl (by omega) (by omega)).trans (by omega)) d_W_becomeProduct_96 ?_
                        refine lv_topi (fun x96 ex96 => ?_)
                        obtain rfl : x96 = iI ((dl gb j : Int)) := ex96.trans (dl_get hdbj)
                        refine wz_i2l hx hb d_W_becomeProduct_97 (by omega) (by omega) ?_
                        refine wz_lmul (z := ((dl ga i * dl gb j : Nat) : Int)) hx hb d_W_becomeProduct_98 ((Int.natCast_mul _ _).symm) ?_
                        refine lv_aload_n hx hb d_W_becomeProduct_99 rfl (lv_at hl 5 rfl) ?_
                        refine pw_get (ci := 0) (C := R_W) (T := T_W) (N := 2) hx hb hq i_W hown hw (by omega) hO_t rfl 0 (by decide) (hq _ fl_W_17) (fun _ h9 => h9) rfl d_W_becomeProduct_100 ?_
                        refine lv_iload hx hb d_W_becomeProduct_103 (lv_at hl 3 rfl) ?_
                        refine lv_iload hx hb d_W_becomeProduct_105 (lv_at hl 0 rfl) ?_
                        refine wz_iadd (z := ((i + j : Nat) : Int)) hx hb d_W_becomeProduct_107 (by omega) ?_
                        refine pw_iald (k := i + j) hx hb hw 0 (by omega) hA_t rfl (iI_in (by omega) (by omega) (by omega)) ((iI_cl (by omega) (by omega)).trans (by omega)) d_W_becomeProduct_108 ?_
                        refine lv_topi (fun x108 ex108 => ?_)
                        obtain rfl : x108 = iI ((dl gx (i + j) : Int)) := ex108.trans ((hs2 _ (Or.inr (Nat.le_refl _))).trans (dl_get hdxj))
                        refine wz_i2l hx hb d_W_becomeProduct_109 (by omega) (by omega) ?_
                        refine wz_ladd (z := ((dl ga i * dl gb j + dl gx (i + j) : Nat) : Int)) hx hb d_W_becomeProduct_110 (rfl) ?_
                        refine lv_lload hx hb d_W_becomeProduct_111 (lv_at hl 1 rfl) ?_
                        refine wz_ladd (z := ((dl ga i * dl gb j + dl gx (i + j) + cy : Nat) : Int)) hx hb d_W_becomeProduct_113 (rfl) ?_
                        refine lv_lstore (lv' := [(10, .long (iL (((dl ga i * dl gb j + dl gx (i + j) + cy : Nat) : Int)))), (9, .int (iI ((j : Int)))), (7, .long (iL ((cy : Int)))), (5, .long (iL ((dl ga i : Int)))), (4, .int (iI ((i : Int)))), (3, .int (iI (((na + nb : Nat) : Int)))), (0, .ref (ad (t))), (1, .ref (ad (a))), (2, .ref (ad (b)))]) hx hb d_W_becomeProduct_114 hl (by decide) rfl (fun ls hl => ?_)
                        refine lv_aload_n hx hb d_W_becomeProduct_116 rfl (lv_at hl 6 rfl) ?_
                        refine pw_get (ci := 0) (C := R_W) (T := T_W) (N := 2) hx hb hq i_W hown hw (by omega) hO_t rfl 0 (by decide) (hq _ fl_W_17) (fun _ h9 => h9) rfl d_W_becomeProduct_117 ?_
                        refine lv_iload hx hb d_W_becomeProduct_120 (lv_at hl 4 rfl) ?_
                        refine lv_iload hx hb d_W_becomeProduct_122 (lv_at hl 1 rfl) ?_
                        refine wz_iadd (z := ((i + j : Nat) : Int)) hx hb d_W_becomeProduct_124 (by omega) ?_
                        refine lv_lload hx hb d_W_becomeProduct_125 (lv_at hl 0 rfl) ?_
                        refine lv_ldc2 (v := iL (2147483647)) hx hb hown (hq _ cj_W_43) d_W_becomeProduct_127 ?_
                        refine lv_land hx hb d_W_becomeProduct_130 ?_
                        refine lv_topl (fun x130 ex130 => ?_)
                        obtain rfl : x130 = iL ((((dl ga i * dl gb j + dl gx (i + j) + cy) % 2147483648 : Nat) : Int)) := ex130.trans (iL_m31 _)
                        refine wz_l2i hx hb d_W_becomeProduct_131 ?_
                        refine pw_iast (k := i + j) hx hb hw 0 (by omega) hA_t rfl (iI_in (by omega) (by omega) (by omega)) ((iI_cl (by omega) (by omega)).trans (by omega)) d_W_becomeProduct_132 (fun F132 H locs eF132 hw => ?_)
                        obtain ⟨gw, egw⟩ : ∃ z, z = upd gy (i + j) (iI ((((dl ga i * dl gb j + dl gx (i + j) + cy) % 2147483648 : Nat) : Int))) := ⟨_, rfl⟩
                        rw [← egw] at eF132
                        have m132_t1 : F132 (t + 1) = .inl (ty 0, N, .inl (gw)) := by rw [eF132]; exact va_up_self ..
                        have hO_t_at_132 : F132 (t) = .inr (0, [.ref (ad (t + 1)), .int (iI ((nt : Int)))]) := (show F132 (t) = F79 (t) from by rw [eF132]; exact va_up_ne _ _ (by omega)).trans hO_t
                        have hO_a_at_132 : F132 (a) = .inr (0, [.ref (ad (a + 1)), .int (iI ((na : Int)))]) := (show F132 (a) = F79 (a) from by rw [eF132]; exact va_up_ne _ _ (by omega)).trans hO_a
                        have hA_a_at_132 : F132 (a + 1) = .inl (ty 0, Na, .inl (ga)) := (show F132 (a + 1) = F79 (a + 1) from by rw [eF132]; exact va_up_ne _ _ (by omega)).trans hA_a
                        have hO_b_at_132 : F132 (b) = .inr (0, [.ref (ad (b + 1)), .int (iI ((nb : Int)))]) := (show F132 (b) = F79 (b) from by rw [eF132]; exact va_up_ne _ _ (by omega)).trans hO_b
                        have hA_b_at_132 : F132 (b + 1) = .inl (ty 0, Nb, .inl (gb)) := (show F132 (b + 1) = F79 (b + 1) from by rw [eF132]; exact va_up_ne _ _ (by omega)).trans hA_b
                        have hdw : dl gw (i + j) = (dl ga i * dl gb j + dl gx (i + j) + cy) % 2147483648 := by rw [egw]; exact dl_us (by omega)
                        refine lv_lload hx hb d_W_becomeProduct_133 (lv_at hl 0 rfl) ?_
                        refine wz_bipush (n := 31) hx hb d_W_becomeProduct_135 (by decide) ?_
                        refine lv_lushr (v := iL ((((dl ga i * dl gb j + dl gx (i + j) + cy) / 2147483648 : Nat) : Int))) hx hb d_W_becomeProduct_137 (iL_ushr (k := 31) (by decide) (by omega)) ?_
                        refine lv_lstore (lv' := [(7, .long (iL ((((dl ga i * dl gb j + dl gx (i + j) + cy) / 2147483648 : Nat) : Int)))), (10, .long (iL (((dl ga i * dl gb j + dl gx (i + j) + cy : Nat) : Int)))), (9, .int (iI ((j : Int)))), (5, .long (iL ((dl ga i : Int)))), (4, .int (iI ((i : Int)))), (3, .int (iI (((na + nb : Nat) : Int)))), (0, .ref (ad (t))), (1, .ref (ad (a))), (2, .ref (ad (b)))]) hx hb d_W_becomeProduct_138 hl (by decide) rfl (fun ls hl => ?_)
                        refine wz_iinc (z := ((j + 1 : Nat) : Int)) (lv' := [(9, .int (iI (((j + 1 : Nat) : Int)))), (7, .long (iL ((((dl ga i * dl gb j + dl gx (i + j) + cy) / 2147483648 : Nat) : Int)))), (10, .long (iL (((dl ga i * dl gb j + dl gx (i + j) + cy : Nat) : Int)))), (5, .long (iL ((dl ga i : Int)))), (4, .int (iI ((i : Int)))), (3, .int (iI (((na + nb : Nat) : Int)))), (0, .ref (ad (t))), (1, .ref (ad (a))), (2, .ref (ad (b)))]) hx hb d_W_becomeProduct_140 hl (k := 2) rfl (by omega) (by decide) rfl (fun ls hl => ?_)
                        refine lv_goto (tgt := 79) hx hb d_W_becomeProduct_143 (by decide) ?_
                        exact ih79 (j + 1) ((dl ga i * dl gb j + dl gx (i + j) + cy) / 2147483648) gw _ _ _ ls (by omega) (by omega) (pr_in hinv2 hdw (fun k hk => by rw [egw]; exact dl_un (by omega))) (Nat.div_lt_of_lt_mul (by omega)) (fun k h1 => by
                          by_cases h2 : k = i + j
                          · rw [h2, hdw]; exact Nat.mod_lt _ (by decide)
                          · rw [egw, dl_un h2]; exact hd2 k h1) (fun k h1 => by rw [egw, pk_un (by omega)]; exact hs2 k (by omega)) (fun y h1 h2 => by rw [eF132, va_up_ne _ _ h2]; exact hfr y h1 h2) hO_t_at_132 m132_t1 hO_a_at_132 hA_a_at_132 hO_b_at_132 hA_b_at_132 hw (lv_sub hl [0, 1, 3, 4, 5, 6, 7, 8] rfl)
                  exact K79 _ 0 0 gx _ _ _ ls (Nat.lt_succ_self _) (Nat.zero_le _) (by simp [bv_0]) (by decide) (hdig) (fun _ _ => rfl) (hfr) hO_t hA_t hO_a hA_a hO_b hA_b hw hl
            exact K54 _ 0 gx _ _ _ ls (Nat.lt_succ_self _) (Nat.zero_le _) (by rw [Nat.zero_add, bv_zero (fun i hi => hz i (by omega))]; simp [bv_0]) (fun j h1 => by rw [hz j (by omega)]; decide) (hfr) hO_t hA_t hO_a hA_a hO_b hA_b hw hl
          · refine lv_aload_n hx hb d_W_becomeProduct_37 rfl (lv_at hl 2 rfl) ?_
            refine pw_get (ci := 0) (C := R_W) (T := T_W) (N := 2) hx hb hq i_W hown hw (by omega) hO_t rfl 0 (by decide) (hq _ fl_W_17) (fun _ h9 => h9) rfl d_W_becomeProduct_38 ?_
            refine lv_iload hx hb d_W_becomeProduct_41 (lv_at hl 0 rfl) ?_
            refine wz_iconst (n := 0) hx hb d_W_becomeProduct_43 ?_
            refine pw_iast (k := j) hx hb hw 0 (by omega) hA_t rfl (iI_in (by omega) (by omega) (by omega)) ((iI_cl (by omega) (by omega)).trans (by omega)) d_W_becomeProduct_44 (fun F44 H locs eF44 hw => ?_)
            obtain ⟨gy, egy⟩ : ∃ z, z = upd gx (j) (iI (0)) := ⟨_, rfl⟩
            rw [← egy] at eF44
            have m44_t1 : F44 (t + 1) = .inl (ty 0, N, .inl (gy)) := by rw [eF44]; exact va_up_self ..
            have hO_t_at_44 : F44 (t) = .inr (0, [.ref (ad (t + 1)), .int (iI ((nt : Int)))]) := (show F44 (t) = F28 (t) from by rw [eF44]; exact va_up_ne _ _ (by omega)).trans hO_t
            have hO_a_at_44 : F44 (a) = .inr (0, [.ref (ad (a + 1)), .int (iI ((na : Int)))]) := (show F44 (a) = F28 (a) from by rw [eF44]; exact va_up_ne _ _ (by omega)).trans hO_a
            have hA_a_at_44 : F44 (a + 1) = .inl (ty 0, Na, .inl (ga)) := (show F44 (a + 1) = F28 (a + 1) from by rw [eF44]; exact va_up_ne _ _ (by omega)).trans hA_a
            have hO_b_at_44 : F44 (b) = .inr (0, [.ref (ad (b + 1)), .int (iI ((nb : Int)))]) := (show F44 (b) = F28 (b) from by rw [eF44]; exact va_up_ne _ _ (by omega)).trans hO_b
            have hA_b_at_44 : F44 (b + 1) = .inl (ty 0, Nb, .inl (gb)) := (show F44 (b + 1) = F28 (b + 1) from by rw [eF44]; exact va_up_ne _ _ (by omega)).trans hA_b
            refine wz_iinc (z := ((j + 1 : Nat) : Int)) (lv' := [(4, .int (iI (((j + 1 : Nat) : Int)))), (3, .int (iI (((na + nb : Nat) : Int)))), (0, .ref (ad (t))), (1, .ref (ad (a))), (2, .ref (ad (b)))]) hx hb d_W_becomeProduct_45 hl (k := 0) rfl (by omega) (by decide) rfl (fun ls hl => ?_)
            refine lv_goto (tgt := 28) hx hb d_W_becomeProduct_48 (by decide) ?_
            exact ih28 (j + 1) gy _ _ _ ls (by omega) (by omega) (fun i h1 => by
              rcases Nat.lt_or_ge i j with h2 | h2
              · rw [egy, dl_un (by omega)]; exact hz i h2
              · rw [show i = j by omega, egy]; exact dl_us (n := 0) (by omega)) (fun y h1 h2 => by rw [eF44, va_up_ne _ _ h2]; exact hfr y h1 h2) hO_t_at_44 m44_t1 hO_a_at_44 hA_a_at_44 hO_b_at_44 hA_b_at_44 hw hl
      exact K28 _ 0 gt _ _ _ ls (Nat.lt_succ_self _) (Nat.zero_le _) (fun i h1 => absurd h1 (by omega)) (fun _ _ _ => rfl) hO_t hA_t hO_a hA_a hO_b hA_b hw hl
    · exact absurd c16 (by omega)
  rw [hH, hlo] at hgo
  exact hgo
set_option maxHeartbeats 4000000 in
set_option maxRecDepth 100000 in
/-- Whole.becomeMix(f, a, g, b) -/
theorem c_W_becomeMix (l : Launch) (D : va_G) (ty : Nat → ClassId) (ad : Nat → Nat) (M : Nat) (F : Nat → va_E) (sz : Nat) (t a b N Na Nb va vb vr : Nat) (fz gz : Int) (hMt : t + 1 < M) (hMa : a + 1 < M) (hMb : b + 1 < M) (hN : N < 1000) (hNa : Na < 1000) (hNb : Nb < 1000) (hta : a ≠ t ∧ a ≠ t + 1 ∧ a + 1 ≠ t) (htb : b ≠ t ∧ b ≠ t + 1 ∧ b + 1 ≠ t) (hf : -2147483648 < fz ∧ fz < 2147483648) (hg : -2147483648 < gz ∧ gz < 2147483648) (hs : fz ≤ 0 ∨ gz ≤ 0 ∨ (fz = 1 ∧ gz = 1)) (hr0 : fz * va + gz * vb = vr) (hva : va < 2147483648 ^ (N - 1)) (hvb : vb < 2147483648 ^ (N - 1)) (hN0 : 0 < N) (ha : Wv ty ad F a Na va) (hb0 : Wv ty ad F b Nb vb) (h : Wa ty ad F t N) :
    CV l y_W_becomeMix w_W_becomeMix ({ frames := 2, cells := 0, slots := 0, locals := 46 } : Room) [.ref (ad (t)), .long (iL (fz)), .ref (ad (a)), .long (iL (gz)), .ref (ad (b))] D ty ad M F sz (fun F1 => Wv ty ad F1 t N vr ∧ fr2 F F1 t) := by
  refine Met.ofW (cc := b_W_becomeMix) (maxL := 15) (ret := none) (by decide) rfl ?_
  intro p e s m args below meth c s₁ B hml hv
  obtain ⟨rfl, hsz, hP, hK, hD0⟩ := hv
  have hx := B.exec
  have hb := B.bytes
  have hr := B.returns
  have hts := atoms_spec (ws := w_W_becomeMix) B.pre
  have hq : ∀ w ∈ wT, w.before _ s = true := fun w h => hts w (List.mem_cons_of_mem _ h)
  have hown : s.vm.findClass R_W = some m.cls := findClass_of_methodNamed B.named
  have hlocks := B.notSynchronized
  subst hsz
  have hw := pw_start hP hK hD0
  have hl := lv_entry ([.ref (ad (t)), .long (iL (fz)), .ref (ad (a)), .long (iL (gz)), .ref (ad (b))]) (n := 15) (Nat.le_of_ble_eq_true rfl)
  rw [lg_entry_eq]
  generalize (lg_sl ([.ref (ad (t)), .long (iL (fz)), .ref (ad (a)), .long (iL (gz)), .ref (ad (b))]) ++ List.replicate (15 - (lg_sl ([.ref (ad (t)), .long (iL (fz)), .ref (ad (a)), .long (iL (gz)), .ref (ad (b))])).length) Slot.unset).toArray = ls at hl ⊢
  have hl : lv_has ls 15 [(0, .ref (ad (t))), (1, .long (iL (fz))), (3, .ref (ad (a))), (4, .long (iL (gz))), (6, .ref (ad (b)))] := hl
  change W p l e ({ frames := 2, cells := 0, slots := 0, locals := 46 } : Room) s m ([.ref (ad (t)), .long (iL (fz)), .ref (ad (a)), .long (iL (gz)), .ref (ad (b))]).toArray below meth c s.heap [] 0 0 (MQ below (va_Qv (fun F1 => Wv ty ad F1 t N vr ∧ fr2 F F1 t) (pAt D classes (tysL ty) ad M (pA ad M s.heap.size)) (pA ad M s.heap.size)) ([.ref (ad (t)), .long (iL (fz)), .ref (ad (a)), .long (iL (gz)), .ref (ad (b))]).toArray s 0 0 (pA ad M s.heap.size)) (F0 m 0 ls [])
  generalize hQ : MQ below (va_Qv (fun F1 => Wv ty ad F1 t N vr ∧ fr2 F F1 t) (pAt D classes (tysL ty) ad M (pA ad M s.heap.size)) (pA ad M s.heap.size)) ([.ref (ad (t)), .long (iL (fz)), .ref (ad (a)), .long (iL (gz)), .ref (ad (b))]).toArray s 0 0 (pA ad M s.heap.size) = Q
  obtain ⟨H, hH⟩ : ∃ H, H = s.heap := ⟨_, rfl⟩
  obtain ⟨locs, hlo⟩ : ∃ z : List Loc, z = [] := ⟨_, rfl⟩
  have hw : pw D classes (tysL ty) ad M F (pA ad M s.heap.size) s H locs := by rw [hH, hlo]; exact hw
  have hgo : W p l e ({ frames := 2, cells := 0, slots := 0, locals := 46 } : Room) s m ([.ref (ad (t)), .long (iL (fz)), .ref (ad (a)), .long (iL (gz)), .ref (ad (b))]).toArray below meth c H locs 0 0 Q (F0 m 0 ls []) := by
    obtain ⟨na, ga, ⟨hO_a, hA_a⟩, hoka⟩ := ha
    obtain ⟨nb, gb, ⟨hO_b, hA_b⟩, hokb⟩ := hb0
    obtain ⟨nt, gt, hO_t, hA_t⟩ := h
    have hna := hoka.1
    have hnb := hokb.1
    have hka := hoka.fits hva
    have hkb := hokb.fits hvb
    have hda := hoka.2.1
    have hdb := hokb.2.1
    obtain ⟨n0, hn0⟩ : ∃ z, z = max na nb := ⟨_, rfl⟩
    refine lv_aload_n hx hb d_W_becomeMix_0 rfl (lv_at hl 2 rfl) ?_
    refine pw_get (ci := 0) (C := R_W) (T := T_W) (N := 2) hx hb hq i_W hown hw (by omega) hO_a rfl 1 (by decide) (hq _ fl_W_21) (fun _ h9 => h9) rfl d_W_becomeMix_1 ?_
    refine lv_aload hx hb d_W_becomeMix_4 (lv_at hl 4 rfl) ?_
    refine pw_get (ci := 0) (C := R_W) (T := T_W) (N := 2) hx hb hq i_W hown hw (by omega) hO_b rfl 1 (by decide) (hq _ fl_W_21) (fun _ h9 => h9) rfl d_W_becomeMix_6 ?_
    refine wz_mmax (z := (n0 : Int)) hx hb (hml.trans hl.1.symm) hown (hq _ ml_W_11) (hq _ st_JM_max) (hq _ in_JM) (hq _ m_JM_max) (Nat.le_of_ble_eq_true rfl) (Nat.le_of_ble_eq_true rfl) (Nat.zero_le _) (Nat.zero_le _) (by omega) (by omega) (by omega) (by omega) (by omega) d_W_becomeMix_9 ?_
    refine lv_istore (lv' := [(7, .int (iI ((n0 : Int)))), (0, .ref (ad (t))), (1, .long (iL (fz))), (3, .ref (ad (a))), (4, .long (iL (gz))), (6, .ref (ad (b)))]) hx hb d_W_becomeMix_12 hl (by decide) rfl (fun ls hl => ?_)
    refine lv_iload hx hb d_W_becomeMix_14 (lv_at hl 0 rfl) ?_
    refine lv_aload_n hx hb d_W_becomeMix_16 rfl (lv_at hl 1 rfl) ?_
    refine pw_get (ci := 0) (C := R_W) (T := T_W) (N := 2) hx hb hq i_W hown hw (by omega) hO_t rfl 0 (by decide) (hq _ fl_W_17) (fun _ h9 => h9) rfl d_W_becomeMix_17 ?_
    refine pw_alen (v := iI ((N : Nat) : Int)) hx hb hw 0 (by omega) hA_t rfl (iI_nat _).symm d_W_becomeMix_20 ?_
    refine wz_icmp_lt (tgt := 30) hx hb d_W_becomeMix_21 (by decide) (by omega) (by omega) (by omega) (by omega) (fun c21 => ?_) (fun c21 => ?_)
    · refine lv_lconst (v := iL 0) hx hb d_W_becomeMix_30 (by decide) ?_
      refine lv_lstore (lv' := [(8, .long (iL (0))), (7, .int (iI ((n0 : Int)))), (0, .ref (ad (t))), (1, .long (iL (fz))), (3, .ref (ad (a))), (4, .long (iL (gz))), (6, .ref (ad (b)))]) hx hb d_W_becomeMix_31 hl (by decide) rfl (fun ls hl => ?_)
      refine wz_iconst (n := 0) hx hb d_W_becomeMix_33 ?_
      refine lv_istore (lv' := [(10, .int (iI (0))), (8, .long (iL (0))), (7, .int (iI ((n0 : Int)))), (0, .ref (ad (t))), (1, .long (iL (fz))), (3, .ref (ad (a))), (4, .long (iL (gz))), (6, .ref (ad (b)))]) hx hb d_W_becomeMix_34 hl (by decide) rfl (fun ls hl => ?_)
      have K36 : ∀ (fuel : Nat) (i : Nat) (cy : Int) (gx : Nat → Int32) (F36 : Nat → va_E) (H : Heap) (locs : List Loc) (ls : Array Slot), n0 - i < fuel → (i ≤ n0) → ((bv 2147483648 (dl gx) i : Int) + cy * 2147483648 ^ i = fz * (bv 2147483648 (lm (dl ga) na) i : Int) + gz * (bv 2147483648 (lm (dl gb) nb) i : Int)) → (-4294967296 ≤ cy ∧ cy ≤ 4294967296) → (∀ j, j < i → dl gx j < 2147483648) → (fr2 F F36 t) → F36 (t) = .inr (0, [.ref (ad (t + 1)), .int (iI ((nt : Int)))]) → F36 (t + 1) = .inl (ty 0, N, .inl (gx)) → F36 (a) = .inr (0, [.ref (ad (a + 1)), .int (iI ((na : Int)))]) → F36 (a + 1) = .inl (ty 0, Na, .inl (ga)) → F36 (b) = .inr (0, [.ref (ad (b + 1)), .int (iI ((nb : Int)))]) → F36 (b + 1) = .inl (ty 0, Nb, .inl (gb)) → pw D classes (tysL ty) ad M F36 (pA ad M s.heap.size) s H locs → lv_has ls 15 [(10, .int (iI ((i : Int)))), (8, .long (iL (cy))), (7, .int (iI ((n0 : Int)))), (0, .ref (ad (t))), (1, .long (iL (fz))), (3, .ref (ad (a))), (4, .long (iL (gz))), (6, .ref (ad (b)))] → W p l e ({ frames := 2, cells := 0, slots := 0, locals := 46 } : Room) s m ([.ref (ad (t)), .long (iL (fz)), .ref (ad (a)), .long (iL (gz)), .ref (ad (b))]).toArray below meth c H locs 0 0 Q (F0 m 36 ls []) := by
        intro fuel
        induction fuel with
        | zero => intro i cy gx F36 H locs ls hfuel hi hinv hc hdig hfr hO_t hA_t hO_a hA_a hO_b hA_b hw hl; exact absurd hfuel (Nat.not_lt_zero _)
        | succ fuel ih36 =>
          intro i cy gx F36 H locs ls hfuel hi hinv hc hdig hfr hO_t hA_t hO_a hA_a hO_b hA_b hw hl
          refine lv_iload hx hb d_W_becomeMix_36 (lv_at hl 0 rfl) ?_
          refine lv_iload hx hb d_W_becomeMix_38 (lv_at hl 2 rfl) ?_
          refine wz_icmp_ge (tgt := 133) hx hb d_W_becomeMix_40 (by decide) (by omega) (by omega) (by omega) (by omega) (fun c40 => ?_) (fun c40 => ?_)
          · have hin : n0 = i := by omega
            subst hin
            rw [bv_lm (by omega), bv_lm (by omega), hoka.2.2.2, hokb.2.2.2, hr0] at hinv
            have hfitr : vr < 2147483648 ^ (n0 + 1) := mx_fit hr0 (Nat.lt_of_lt_of_le hoka.lt (Nat.pow_le_pow_right (by decide) (by omega))) (Nat.lt_of_lt_of_le hokb.lt (Nat.pow_le_pow_right (by decide) (by omega))) hf.2 hg.2 hs
            have hcy := mx_carry hinv (bv_lt hdig) hfitr
            refine lv_aload_n hx hb d_W_becomeMix_133 rfl (lv_at hl 3 rfl) ?_
            refine pw_get (ci := 0) (C := R_W) (T := T_W) (N := 2) hx hb hq i_W hown hw (by omega) hO_t rfl 0 (by decide) (hq _ fl_W_17) (fun _ h9 => h9) rfl d_W_becomeMix_134 ?_
            refine lv_iload hx hb d_W_becomeMix_137 (lv_at hl 2 rfl) ?_
            refine lv_lload hx hb d_W_becomeMix_139 (lv_at hl 1 rfl) ?_
            refine lv_ldc2 (v := iL (2147483647)) hx hb hown (hq _ cj_W_43) d_W_becomeMix_141 ?_
            refine lv_land hx hb d_W_becomeMix_144 ?_
            refine lv_topl (fun x144 ex144 => ?_)
            obtain rfl : x144 = iL ((cy.toNat : Int)) := ex144.trans ((iL_m31 _).trans (congrArg iL (by omega)))
            refine wz_l2i hx hb d_W_becomeMix_145 ?_
            refine pw_iast (k := n0) hx hb hw 0 (by omega) hA_t rfl (iI_in (by omega) (by omega) (by omega)) ((iI_cl (by omega) (by omega)).trans (by omega)) d_W_becomeMix_146 (fun F146 H locs eF146 hw => ?_)
            obtain ⟨gz2, egz2⟩ : ∃ z, z = upd gx (n0) (iI ((cy.toNat : Int))) := ⟨_, rfl⟩
            rw [← egz2] at eF146
            have m146_t1 : F146 (t + 1) = .inl (ty 0, N, .inl (gz2)) := by rw [eF146]; exact va_up_self ..
            have hO_t_at_146 : F146 (t) = .inr (0, [.ref (ad (t + 1)), .int (iI ((nt : Int)))]) := (show F146 (t) = F36 (t) from by rw [eF146]; exact va_up_ne _ _ (by omega)).trans hO_t
            have hO_a_at_146 : F146 (a) = .inr (0, [.ref (ad (a + 1)), .int (iI ((na : Int)))]) := (show F146 (a) = F36 (a) from by rw [eF146]; exact va_up_ne _ _ (by omega)).trans hO_a
            have hA_a_at_146 : F146 (a + 1) = .inl (ty 0, Na, .inl (ga)) := (show F146 (a + 1) = F36 (a + 1) from by rw [eF146]; exact va_up_ne _ _ (by omega)).trans hA_a
            have hO_b_at_146 : F146 (b) = .inr (0, [.ref (ad (b + 1)), .int (iI ((nb : Int)))]) := (show F146 (b) = F36 (b) from by rw [eF146]; exact va_up_ne _ _ (by omega)).trans hO_b
            have hA_b_at_146 : F146 (b + 1) = .inl (ty 0, Nb, .inl (gb)) := (show F146 (b + 1) = F36 (b + 1) from by rw [eF146]; exact va_up_ne _ _ (by omega)).trans hA_b
            have hdz : dl gz2 n0 = cy.toNat := by rw [egz2]; exact dl_us (by omega)
            have hdz2 : ∀ k, k < n0 → dl gz2 k = dl gx k := fun k hk => by rw [egz2]; exact dl_un (by omega)
            have hval : bv 2147483648 (dl gz2) (n0 + 1) = vr := by
              rw [bv_s, bv_congr hdz2, hdz]
              have e0 : ((2147483648 ^ n0 : Nat) : Int) = (2147483648 : Int) ^ n0 := by simp
              have e1 : ((cy.toNat * 2147483648 ^ n0 : Nat) : Int) = cy * 2147483648 ^ n0 := by rw [Int.natCast_mul, e0, Int.toNat_of_nonneg hcy.1]
              omega
            have hdg : ∀ j, j < n0 + 1 → dl gz2 j < 2147483648 := fun j hj => by
              rcases Nat.lt_or_ge j n0 with h2 | h2
              · rw [hdz2 j h2]; exact hdig j h2
              · rw [show j = n0 by omega, hdz]; omega
            refine lv_aload_n hx hb d_W_becomeMix_147 rfl (lv_at hl 3 rfl) ?_
            refine lv_iload hx hb d_W_becomeMix_148 (lv_at hl 2 rfl) ?_
            refine wz_iconst (n := 1) hx hb d_W_becomeMix_150 ?_
            refine wz_iadd (z := ((n0 + 1 : Nat) : Int)) hx hb d_W_becomeMix_151 (by omega) ?_
            refine pw_callv hw (va_runV (As := [.int (iI (((n0 + 1 : Nat) : Int)))]) (rest := []) ⟨hx, hb, hml, hown, hq⟩ (c_W_trim l D ty ad M F146 H.size t N (n0 + 1) nt gz2 hMt hN (by omega) hO_t_at_146 m146_t1) (cwV 1 hq (gV ml_W_48 im_W_trim se_W_trim in_W m_W_trim) rfl rfl rfl (by decide +kernel) ⟨Nat.le_of_ble_eq_true rfl, Nat.le_of_ble_eq_true rfl⟩) (pw_preV hw (by omega) hO_t_at_146 rfl) rfl rfl hl.1 rfl (lv_room (Nat.le_of_ble_eq_true rfl)) d_W_becomeMix_152 ⟨Nat.le_of_ble_eq_true rfl, Nat.le_of_ble_eq_true rfl⟩) (fun F152 H locs q152 hw => ?_)
            obtain ⟨k, hk1, hk2, hk3, eF152⟩ := q152
            have hO_a_at_152 : F152 (a) = .inr (0, [.ref (ad (a + 1)), .int (iI ((na : Int)))]) := (show F152 (a) = F146 (a) from by rw [eF152]; exact va_up_ne _ _ (by omega)).trans hO_a_at_146
            have hA_a_at_152 : F152 (a + 1) = .inl (ty 0, Na, .inl (ga)) := (show F152 (a + 1) = F146 (a + 1) from by rw [eF152]; exact va_up_ne _ _ (by omega)).trans hA_a_at_146
            have hO_b_at_152 : F152 (b) = .inr (0, [.ref (ad (b + 1)), .int (iI ((nb : Int)))]) := (show F152 (b) = F146 (b) from by rw [eF152]; exact va_up_ne _ _ (by omega)).trans hO_b_at_146
            have hA_b_at_152 : F152 (b + 1) = .inl (ty 0, Nb, .inl (gb)) := (show F152 (b + 1) = F146 (b + 1) from by rw [eF152]; exact va_up_ne _ _ (by omega)).trans hA_b_at_146
            have m146_t1_at_152 : F152 (t + 1) = .inl (ty 0, N, .inl (gz2)) := (show F152 (t + 1) = F146 (t + 1) from by rw [eF152]; exact va_up_ne _ _ (by omega)).trans m146_t1
            rw [← hQ]
            exact pw_vret hx hb hr hlocks hw (⟨⟨k, gz2, ⟨by rw [eF152]; exact va_up_self .., m146_t1_at_152⟩, by rw [← hval]; exact Wok.trim (by omega) hk1 hdg hk2 hk3⟩, fun y h1 h2 => by rw [eF152, va_up_ne _ _ h1, eF146, va_up_ne _ _ h2]; exact hfr y h1 h2⟩) d_W_becomeMix_155
          · have K87 : ∀ (x1 x2 : Nat) (ls : Array Slot), (x1 = lm (dl ga) na i) → (x2 = lm (dl gb) nb i) → lv_has ls 15 [(11, .int (iI ((x1 : Int)))), (10, .int (iI ((i : Int)))), (8, .long (iL (cy))), (7, .int (iI ((n0 : Int)))), (0, .ref (ad (t))), (1, .long (iL (fz))), (3, .ref (ad (a))), (4, .long (iL (gz))), (6, .ref (ad (b)))] → W p l e ({ frames := 2, cells := 0, slots := 0, locals := 46 } : Room) s m ([.ref (ad (t)), .long (iL (fz)), .ref (ad (a)), .long (iL (gz)), .ref (ad (b))]).toArray below meth c H locs 0 0 Q (F0 m 87 ls [.int (iI ((x2 : Int)))]) := by
              intro x1 x2 ls hx1 hx2 hl
              have hl1 : x1 < 2147483648 := by rw [hx1]; exact lm_lt (by decide) hda i
              have hl2 : x2 < 2147483648 := by rw [hx2]; exact lm_lt (by decide) hdb i
              obtain ⟨S, hS⟩ : ∃ S : Int, S = fz * (x1 : Int) + gz * (x2 : Int) + cy := ⟨_, rfl⟩
              have hSb := mx_bound (x := x1) (y := x2) hf hg (by omega) (by omega) hc
              rw [← hS] at hSb
              refine lv_istore (lv' := [(12, .int (iI ((x2 : Int)))), (11, .int (iI ((x1 : Int)))), (10, .int (iI ((i : Int)))), (8, .long (iL (cy))), (7, .int (iI ((n0 : Int)))), (0, .ref (ad (t))), (1, .long (iL (fz))), (3, .ref (ad (a))), (4, .long (iL (gz))), (6, .ref (ad (b)))]) hx hb d_W_becomeMix_87 hl (by decide) rfl (fun ls hl => ?_)
              refine lv_lload_n hx hb d_W_becomeMix_89 rfl (lv_at hl 6 rfl) ?_
              refine lv_iload hx hb d_W_becomeMix_90 (lv_at hl 1 rfl) ?_
              refine wz_i2l hx hb d_W_becomeMix_92 (by omega) (by omega) ?_
              refine wz_lmul hx hb d_W_becomeMix_93 rfl ?_
              refine lv_lload hx hb d_W_becomeMix_94 (lv_at hl 8 rfl) ?_
              refine lv_iload hx hb d_W_becomeMix_96 (lv_at hl 0 rfl) ?_
              refine wz_i2l hx hb d_W_becomeMix_98 (by omega) (by omega) ?_
              refine wz_lmul hx hb d_W_becomeMix_99 rfl ?_
              refine wz_ladd hx hb d_W_becomeMix_100 rfl ?_
              refine lv_lload hx hb d_W_becomeMix_101 (lv_at hl 3 rfl) ?_
              refine wz_ladd (z := S) hx hb d_W_becomeMix_103 (hS.symm) ?_
              refine lv_lstore (lv' := [(13, .long (iL (S))), (12, .int (iI ((x2 : Int)))), (11, .int (iI ((x1 : Int)))), (10, .int (iI ((i : Int)))), (8, .long (iL (cy))), (7, .int (iI ((n0 : Int)))), (0, .ref (ad (t))), (1, .long (iL (fz))), (3, .ref (ad (a))), (4, .long (iL (gz))), (6, .ref (ad (b)))]) hx hb d_W_becomeMix_104 hl (by decide) rfl (fun ls hl => ?_)
              refine lv_aload_n hx hb d_W_becomeMix_106 rfl (lv_at hl 6 rfl) ?_
              refine pw_get (ci := 0) (C := R_W) (T := T_W) (N := 2) hx hb hq i_W hown hw (by omega) hO_t rfl 0 (by decide) (hq _ fl_W_17) (fun _ h9 => h9) rfl d_W_becomeMix_107 ?_
              refine lv_iload hx hb d_W_becomeMix_110 (lv_at hl 3 rfl) ?_
              refine lv_lload hx hb d_W_becomeMix_112 (lv_at hl 0 rfl) ?_
              refine lv_ldc2 (v := iL (2147483647)) hx hb hown (hq _ cj_W_43) d_W_becomeMix_114 ?_
              refine lv_land hx hb d_W_becomeMix_117 ?_
              refine lv_topl (fun x117 ex117 => ?_)
              obtain rfl : x117 = iL (((S % 2147483648).toNat : Int)) := ex117.trans ((iL_m31 _).trans (congrArg iL (by omega)))
              refine wz_l2i hx hb d_W_becomeMix_118 ?_
              refine pw_iast (k := i) hx hb hw 0 (by omega) hA_t rfl (iI_in (by omega) (by omega) (by omega)) ((iI_cl (by omega) (by omega)).trans (by omega)) d_W_becomeMix_119 (fun F119 H locs eF119 hw => ?_)
              obtain ⟨gy, egy⟩ : ∃ z, z = upd gx (i) (iI (((S % 2147483648).toNat : Int))) := ⟨_, rfl⟩
              rw [← egy] at eF119
              have m119_t1 : F119 (t + 1) = .inl (ty 0, N, .inl (gy)) := by rw [eF119]; exact va_up_self ..
              have hO_t_at_119 : F119 (t) = .inr (0, [.ref (ad (t + 1)), .int (iI ((nt : Int)))]) := (show F119 (t) = F36 (t) from by rw [eF119]; exact va_up_ne _ _ (by omega)).trans hO_t
              have hO_a_at_119 : F119 (a) = .inr (0, [.ref (ad (a + 1)), .int (iI ((na : Int)))]) := (show F119 (a) = F36 (a) from by rw [eF119]; exact va_up_ne _ _ (by omega)).trans hO_a
              have hA_a_at_119 : F119 (a + 1) = .inl (ty 0, Na, .inl (ga)) := (show F119 (a + 1) = F36 (a + 1) from by rw [eF119]; exact va_up_ne _ _ (by omega)).trans hA_a
              have hO_b_at_119 : F119 (b) = .inr (0, [.ref (ad (b + 1)), .int (iI ((nb : Int)))]) := (show F119 (b) = F36 (b) from by rw [eF119]; exact va_up_ne _ _ (by omega)).trans hO_b
              have hA_b_at_119 : F119 (b + 1) = .inl (ty 0, Nb, .inl (gb)) := (show F119 (b + 1) = F36 (b + 1) from by rw [eF119]; exact va_up_ne _ _ (by omega)).trans hA_b
              have hdy : dl gy i = (S % 2147483648).toNat := by rw [egy]; exact dl_us (by omega)
              refine lv_lload hx hb d_W_becomeMix_120 (lv_at hl 0 rfl) ?_
              refine wz_bipush (n := 31) hx hb d_W_becomeMix_122 (by decide) ?_
              refine lv_lshr (v := iL (S / 2147483648)) hx hb d_W_becomeMix_124 (iL_shr (k := 31) (by decide) hSb.1 hSb.2) ?_
              refine lv_lstore (lv' := [(8, .long (iL (S / 2147483648))), (13, .long (iL (S))), (12, .int (iI ((x2 : Int)))), (11, .int (iI ((x1 : Int)))), (10, .int (iI ((i : Int)))), (7, .int (iI ((n0 : Int)))), (0, .ref (ad (t))), (1, .long (iL (fz))), (3, .ref (ad (a))), (4, .long (iL (gz))), (6, .ref (ad (b)))]) hx hb d_W_becomeMix_125 hl (by decide) rfl (fun ls hl => ?_)
              refine wz_iinc (z := ((i + 1 : Nat) : Int)) (lv' := [(10, .int (iI (((i + 1 : Nat) : Int)))), (8, .long (iL (S / 2147483648))), (13, .long (iL (S))), (12, .int (iI ((x2 : Int)))), (11, .int (iI ((x1 : Int)))), (7, .int (iI ((n0 : Int)))), (0, .ref (ad (t))), (1, .long (iL (fz))), (3, .ref (ad (a))), (4, .long (iL (gz))), (6, .ref (ad (b)))]) hx hb d_W_becomeMix_127 hl (k := 4) rfl (by omega) (by decide) rfl (fun ls hl => ?_)
              refine lv_goto (tgt := 36) hx hb d_W_becomeMix_130 (by decide) ?_
              exact ih36 (i + 1) (S / 2147483648) gy _ _ _ ls (by omega) (by omega) (mx_step hinv (by rw [hS, hx1, hx2]) (by rw [hdy]; omega) (fun k hk => by rw [egy]; exact dl_un (by omega))) (by omega) (fun k h1 => by
                rcases Nat.lt_or_ge k i with h2 | h2
                · rw [egy, dl_un (by omega)]; exact hdig k h2
                · rw [show k = i by omega, hdy]; omega) (fun y h1 h2 => by rw [eF119, va_up_ne _ _ h2]; exact hfr y h1 h2) hO_t_at_119 m119_t1 hO_a_at_119 hA_a_at_119 hO_b_at_119 hA_b_at_119 hw (lv_sub hl [0, 1, 5, 6, 7, 8, 9, 10] rfl)
            have K63 : ∀ (x1 : Nat) (ls : Array Slot), (x1 = lm (dl ga) na i) → lv_has ls 15 [(10, .int (iI ((i : Int)))), (8, .long (iL (cy))), (7, .int (iI ((n0 : Int)))), (0, .ref (ad (t))), (1, .long (iL (fz))), (3, .ref (ad (a))), (4, .long (iL (gz))), (6, .ref (ad (b)))] → W p l e ({ frames := 2, cells := 0, slots := 0, locals := 46 } : Room) s m ([.ref (ad (t)), .long (iL (fz)), .ref (ad (a)), .long (iL (gz)), .ref (ad (b))]).toArray below meth c H locs 0 0 Q (F0 m 63 ls [.int (iI ((x1 : Int)))]) := by
              intro x1 ls hx1 hl
              refine lv_istore (lv' := [(11, .int (iI ((x1 : Int)))), (10, .int (iI ((i : Int)))), (8, .long (iL (cy))), (7, .int (iI ((n0 : Int)))), (0, .ref (ad (t))), (1, .long (iL (fz))), (3, .ref (ad (a))), (4, .long (iL (gz))), (6, .ref (ad (b)))]) hx hb d_W_becomeMix_63 hl (by decide) rfl (fun ls hl => ?_)
              refine lv_iload hx hb d_W_becomeMix_65 (lv_at hl 1 rfl) ?_
              refine lv_aload hx hb d_W_becomeMix_67 (lv_at hl 8 rfl) ?_
              refine pw_get (ci := 0) (C := R_W) (T := T_W) (N := 2) hx hb hq i_W hown hw (by omega) hO_b rfl 1 (by decide) (hq _ fl_W_21) (fun _ h9 => h9) rfl d_W_becomeMix_69 ?_
              refine wz_icmp_ge (tgt := 86) hx hb d_W_becomeMix_72 (by decide) (by omega) (by omega) (by omega) (by omega) (fun c72 => ?_) (fun c72 => ?_)
              · refine wz_iconst (n := 0) hx hb d_W_becomeMix_86 ?_
                exact K87 x1 0 ls (hx1) (by unfold lm; rw [if_neg (by omega)]) hl
              · refine lv_aload hx hb d_W_becomeMix_75 (lv_at hl 8 rfl) ?_
                refine pw_get (ci := 0) (C := R_W) (T := T_W) (N := 2) hx hb hq i_W hown hw (by omega) hO_b rfl 0 (by decide) (hq _ fl_W_17) (fun _ h9 => h9) rfl d_W_becomeMix_77 ?_
                refine lv_iload hx hb d_W_becomeMix_80 (lv_at hl 1 rfl) ?_
                refine pw_iald (k := i) hx hb hw 0 (by omega) hA_b rfl (iI_in (by omega) (by omega) (by omega)) ((iI_cl (by omega) (by omega)).trans (by omega)) d_W_becomeMix_82 ?_
                refine lv_topi (fun x82 ex82 => ?_)
                obtain rfl : x82 = iI ((dl gb i : Int)) := ex82.trans (dl_get (hdb i (by omega)))
                refine lv_goto (tgt := 87) hx hb d_W_becomeMix_83 (by decide) ?_
                exact K87 x1 (dl gb i) ls (hx1) (by unfold lm; rw [if_pos (by omega)]) hl
            refine lv_iload hx hb d_W_becomeMix_43 (lv_at hl 0 rfl) ?_
            refine lv_aload_n hx hb d_W_becomeMix_45 rfl (lv_at hl 5 rfl) ?_
            refine pw_get (ci := 0) (C := R_W) (T := T_W) (N := 2) hx hb hq i_W hown hw (by omega) hO_a rfl 1 (by decide) (hq _ fl_W_21) (fun _ h9 => h9) rfl d_W_becomeMix_46 ?_
            refine wz_icmp_ge (tgt := 62) hx hb d_W_becomeMix_49 (by decide) (by omega) (by omega) (by omega) (by omega) (fun c49 => ?_) (fun c49 => ?_)
            · refine wz_iconst (n := 0) hx hb d_W_becomeMix_62 ?_
              exact K63 0 ls (by unfold lm; rw [if_neg (by omega)]) hl
            · refine lv_aload_n hx hb d_W_becomeMix_52 rfl (lv_at hl 5 rfl) ?_
              refine pw_get (ci := 0) (C := R_W) (T := T_W) (N := 2) hx hb hq i_W hown hw (by omega) hO_a rfl 0 (by decide) (hq _ fl_W_17) (fun _ h9 => h9) rfl d_W_becomeMix_53 ?_
              refine lv_iload hx hb d_W_becomeMix_56 (lv_at hl 0 rfl) ?_
              refine pw_iald (k := i) hx hb hw 0 (by omega) hA_a rfl (iI_in (by omega) (by omega) (by omega)) ((iI_cl (by omega) (by omega)).trans (by omega)) d_W_becomeMix_58 ?_
              refine lv_topi (fun x58 ex58 => ?_)
              obtain rfl : x58 = iI ((dl ga i : Int)) := ex58.trans (dl_get (hda i (by omega)))
              refine lv_goto (tgt := 63) hx hb d_W_becomeMix_59 (by decide) ?_
              exact K63 (dl ga i) ls (by unfold lm; rw [if_pos (by omega)]) hl
      exact K36 _ 0 0 gt _ _ _ ls (Nat.lt_succ_self _) (Nat.zero_le _) (by simp [bv_0]) (by omega) (fun j h1 => absurd h1 (by omega)) (fun _ _ _ => rfl) hO_t hA_t hO_a hA_a hO_b hA_b hw hl
    · exact absurd c21 (by omega)
  rw [hH, hlo] at hgo
  exact hgo
set_option maxHeartbeats 4000000 in
set_option maxRecDepth 100000 in
/-- Whole.becomeMix(f, a, g, b), this being b -/
theorem c_W_becomeMix2 (l : Launch) (D : va_G) (ty : Nat → ClassId) (ad : Nat → Nat) (M : Nat) (F : Nat → va_E) (sz : Nat) (t a N Na va vb vr : Nat) (fz gz : Int) (hMt : t + 1 < M) (hMa : a + 1 < M) (hN : N < 1000) (hNa : Na < 1000) (hta : a ≠ t ∧ a ≠ t + 1 ∧ a + 1 ≠ t) (hf : -2147483648 < fz ∧ fz < 2147483648) (hg : -2147483648 < gz ∧ gz < 2147483648) (hs : fz ≤ 0 ∨ gz ≤ 0 ∨ (fz = 1 ∧ gz = 1)) (hr0 : fz * va + gz * vb = vr) (hva : va < 2147483648 ^ (N - 1)) (hvb : vb < 2147483648 ^ (N - 1)) (hN0 : 0 < N) (ha : Wv ty ad F a Na va) (hb0 : Wv ty ad F t N vb) :
    CV l y_W_becomeMix w_W_becomeMix ({ frames := 2, cells := 0, slots := 0, locals := 46 } : Room) [.ref (ad (t)), .long (iL (fz)), .ref (ad (a)), .long (iL (gz)), .ref (ad (t))] D ty ad M F sz (fun F1 => Wv ty ad F1 t N vr ∧ fr2 F F1 t) := by
  refine Met.ofW (cc := b_W_becomeMix) (maxL := 15) (ret := none) (by decide) rfl ?_
  intro p e s m args below meth c s₁ B hml hv
  obtain ⟨rfl, hsz, hP, hK, hD0⟩ := hv
  have hx := B.exec
  have hb := B.bytes
  have hr := B.returns
  have hts := atoms_spec (ws := w_W_becomeMix) B.pre
  have hq : ∀ w ∈ wT, w.before _ s = true := fun w h => hts w (List.mem_cons_of_mem _ h)
  have hown : s.vm.findClass R_W = some m.cls := findClass_of_methodNamed B.named
  have hlocks := B.notSynchronized
  subst hsz
  have hw := pw_start hP hK hD0
  have hl := lv_entry ([.ref (ad (t)), .long (iL (fz)), .ref (ad (a)), .long (iL (gz)), .ref (ad (t))]) (n := 15) (Nat.le_of_ble_eq_true rfl)
  rw [lg_entry_eq]
  generalize (lg_sl ([.ref (ad (t)), .long (iL (fz)), .ref (ad (a)), .long (iL (gz)), .ref (ad (t))]) ++ List.replicate (15 - (lg_sl ([.ref (ad (t)), .long (iL (fz)), .ref (ad (a)), .long (iL (gz)), .ref (ad (t))])).length) Slot.unset).toArray = ls at hl ⊢
  have hl : lv_has ls 15 [(0, .ref (ad (t))), (1, .long (iL (fz))), (3, .ref (ad (a))), (4, .long (iL (gz))), (6, .ref (ad (t)))] := hl
  change W p l e ({ frames := 2, cells := 0, slots := 0, locals := 46 } : Room) s m ([.ref (ad (t)), .long (iL (fz)), .ref (ad (a)), .long (iL (gz)), .ref (ad (t))]).toArray below meth c s.heap [] 0 0 (MQ below (va_Qv (fun F1 => Wv ty ad F1 t N vr ∧ fr2 F F1 t) (pAt D classes (tysL ty) ad M (pA ad M s.heap.size)) (pA ad M s.heap.size)) ([.ref (ad (t)), .long (iL (fz)), .ref (ad (a)), .long (iL (gz)), .ref (ad (t))]).toArray s 0 0 (pA ad M s.heap.size)) (F0 m 0 ls [])
  generalize hQ : MQ below (va_Qv (fun F1 => Wv ty ad F1 t N vr ∧ fr2 F F1 t) (pAt D classes (tysL ty) ad M (pA ad M s.heap.size)) (pA ad M s.heap.size)) ([.ref (ad (t)), .long (iL (fz)), .ref (ad (a)), .long (iL (gz)), .ref (ad (t))]).toArray s 0 0 (pA ad M s.heap.size) = Q
  obtain ⟨H, hH⟩ : ∃ H, H = s.heap := ⟨_, rfl⟩
  obtain ⟨locs, hlo⟩ : ∃ z : List Loc, z = [] := ⟨_, rfl⟩
  have hw : pw D classes (tysL ty) ad M F (pA ad M s.heap.size) s H locs := by rw [hH, hlo]; exact hw
  have hgo : W p l e ({ frames := 2, cells := 0, slots := 0, locals := 46 } : Room) s m ([.ref (ad (t)), .long (iL (fz)), .ref (ad (a)), .long (iL (gz)), .ref (ad (t))]).toArray below meth c H locs 0 0 Q (F0 m 0 ls []) := by
    obtain ⟨na, ga, ⟨hO_a, hA_a⟩, hoka⟩ := ha
    obtain ⟨nt, gt, ⟨hO_t, hA_t⟩, hokb⟩ := hb0
    have hna := hoka.1
    have hnb := hokb.1
    have hka := hoka.fits hva
    have hkb := hokb.fits hvb
    have hda := hoka.2.1
    have hdb := hokb.2.1
    obtain ⟨n0, hn0⟩ : ∃ z, z = max na nt := ⟨_, rfl⟩
    refine lv_aload_n hx hb d_W_becomeMix_0 rfl (lv_at hl 2 rfl) ?_
    refine pw_get (ci := 0) (C := R_W) (T := T_W) (N := 2) hx hb hq i_W hown hw (by omega) hO_a rfl 1 (by decide) (hq _ fl_W_21) (fun _ h9 => h9) rfl d_W_becomeMix_1 ?_
    refine lv_aload hx hb d_W_becomeMix_4 (lv_at hl 4 rfl) ?_
    refine pw_get (ci := 0) (C := R_W) (T := T_W) (N := 2) hx hb hq i_W hown hw (by omega) hO_t rfl 1 (by decide) (hq _ fl_W_21) (fun _ h9 => h9) rfl d_W_becomeMix_6 ?_
    refine wz_mmax (z := (n0 : Int)) hx hb (hml.trans hl.1.symm) hown (hq _ ml_W_11) (hq _ st_JM_max) (hq _ in_JM) (hq _ m_JM_max) (Nat.le_of_ble_eq_true rfl) (Nat.le_of_ble_eq_true rfl) (Nat.zero_le _) (Nat.zero_le _) (by omega) (by omega) (by omega) (by omega) (by omega) d_W_becomeMix_9 ?_
    refine lv_istore (lv' := [(7, .int (iI ((n0 : Int)))), (0, .ref (ad (t))), (1, .long (iL (fz))), (3, .ref (ad (a))), (4, .long (iL (gz))), (6, .ref (ad (t)))]) hx hb d_W_becomeMix_12 hl (by decide) rfl (fun ls hl => ?_)
    refine lv_iload hx hb d_W_becomeMix_14 (lv_at hl 0 rfl) ?_
    refine lv_aload_n hx hb d_W_becomeMix_16 rfl (lv_at hl 1 rfl) ?_
    refine pw_get (ci := 0) (C := R_W) (T := T_W) (N := 2) hx hb hq i_W hown hw (by omega) hO_t rfl 0 (by decide) (hq _ fl_W_17) (fun _ h9 => h9) rfl d_W_becomeMix_17 ?_
    refine pw_alen (v := iI ((N : Nat) : Int)) hx hb hw 0 (by omega) hA_t rfl (iI_nat _).symm d_W_becomeMix_20 ?_
    refine wz_icmp_lt (tgt := 30) hx hb d_W_becomeMix_21 (by decide) (by omega) (by omega) (by omega) (by omega) (fun c21 => ?_) (fun c21 => ?_)
    · refine lv_lconst (v := iL 0) hx hb d_W_becomeMix_30 (by decide) ?_
      refine lv_lstore (lv' := [(8, .long (iL (0))), (7, .int (iI ((n0 : Int)))), (0, .ref (ad (t))), (1, .long (iL (fz))), (3, .ref (ad (a))), (4, .long (iL (gz))), (6, .ref (ad (t)))]) hx hb d_W_becomeMix_31 hl (by decide) rfl (fun ls hl => ?_)
      refine wz_iconst (n := 0) hx hb d_W_becomeMix_33 ?_
      refine lv_istore (lv' := [(10, .int (iI (0))), (8, .long (iL (0))), (7, .int (iI ((n0 : Int)))), (0, .ref (ad (t))), (1, .long (iL (fz))), (3, .ref (ad (a))), (4, .long (iL (gz))), (6, .ref (ad (t)))]) hx hb d_W_becomeMix_34 hl (by decide) rfl (fun ls hl => ?_)
      have K36 : ∀ (fuel : Nat) (i : Nat) (cy : Int) (gx : Nat → Int32) (F36 : Nat → va_E) (H : Heap) (locs : List Loc) (ls : Array Slot), n0 - i < fuel → (i ≤ n0) → ((bv 2147483648 (dl gx) i : Int) + cy * 2147483648 ^ i = fz * (bv 2147483648 (lm (dl ga) na) i : Int) + gz * (bv 2147483648 (lm (dl gt) nt) i : Int)) → (-4294967296 ≤ cy ∧ cy ≤ 4294967296) → (∀ j, j < i → dl gx j < 2147483648) → (∀ j, i ≤ j → gx j = gt j) → (fr2 F F36 t) → F36 (t) = .inr (0, [.ref (ad (t + 1)), .int (iI ((nt : Int)))]) → F36 (t + 1) = .inl (ty 0, N, .inl (gx)) → F36 (a) = .inr (0, [.ref (ad (a + 1)), .int (iI ((na : Int)))]) → F36 (a + 1) = .inl (ty 0, Na, .inl (ga)) → pw D classes (tysL ty) ad M F36 (pA ad M s.heap.size) s H locs → lv_has ls 15 [(10, .int (iI ((i : Int)))), (8, .long (iL (cy))), (7, .int (iI ((n0 : Int)))), (0, .ref (ad (t))), (1, .long (iL (fz))), (3, .ref (ad (a))), (4, .long (iL (gz))), (6, .ref (ad (t)))] → W p l e ({ frames := 2, cells := 0, slots := 0, locals := 46 } : Room) s m ([.ref (ad (t)), .long (iL (fz)), .ref (ad (a)), .long (iL (gz)), .ref (ad (t))]).toArray below meth c H locs 0 0 Q (F0 m 36 ls []) := by
        intro fuel
        induction fuel with
        | zero => intro i cy gx F36 H locs ls hfuel hi hinv hc hdig hsame hfr hO_t hA_t hO_a hA_a hw hl; exact absurd hfuel (Nat.not_lt_zero _)
        | succ fuel ih36 =>
          intro i cy gx F36 H locs ls hfuel hi hinv hc hdig hsame hfr hO_t hA_t hO_a hA_a hw hl
          refine lv_iload hx hb d_W_becomeMix_36 (lv_at hl 0 rfl) ?_
          refine lv_iload hx hb d_W_becomeMix_38 (lv_at hl 2 rfl) ?_
          refine wz_icmp_ge (tgt := 133) hx hb d_W_becomeMix_40 (by decide) (by omega) (by omega) (by omega) (by omega) (fun c40 => ?_) (fun c40 => ?_)
          · have hin : n0 = i := by omega
            subst hin
            rw [bv_lm (by omega), bv_lm (by omega), hoka.2.2.2, hokb.2.2.2, hr0] at hinv
            have hfitr : vr < 2147483648 ^ (n0 + 1) := mx_fit hr0 (Nat.lt_of_lt_of_le hoka.lt (Nat.pow_le_pow_right (by decide) (by omega))) (Nat.lt_of_lt_of_le hokb.lt (Nat.pow_le_pow_right (by decide) (by omega))) hf.2 hg.2 hs
            have hcy := mx_carry hinv (bv_lt hdig) hfitr
            refine lv_aload_n hx hb d_W_becomeMix_133 rfl (lv_at hl 3 rfl) ?_
            refine pw_get (ci := 0) (C := R_W) (T := T_W) (N := 2) hx hb hq i_W hown hw (by omega) hO_t rfl 0 (by decide) (hq _ fl_W_17) (fun _ h9 => h9) rfl d_W_becomeMix_134 ?_
            refine lv_iload hx hb d_W_becomeMix_137 (lv_at hl 2 rfl) ?_
            refine lv_lload hx hb d_W_becomeMix_139 (lv_at hl 1 rfl) ?_
            refine lv_ldc2 (v := iL (2147483647)) hx hb hown (hq _ cj_W_43) d_W_becomeMix_141 ?_
            refine lv_land hx hb d_W_becomeMix_144 ?_
            refine lv_topl (fun x144 ex144 => ?_)
            obtain rfl : x144 = iL ((cy.toNat : Int)) := ex144.trans ((iL_m31 _).trans (congrArg iL (by omega)))
            refine wz_l2i hx hb d_W_becomeMix_145 ?_
            refine pw_iast (k := n0) hx hb hw 0 (by omega) hA_t rfl (iI_in (by omega) (by omega) (by omega)) ((iI_cl (by omega) (by omega)).trans (by omega)) d_W_becomeMix_146 (fun F146 H locs eF146 hw => ?_)
            obtain ⟨gz2, egz2⟩ : ∃ z, z = upd gx (n0) (iI ((cy.toNat : Int))) := ⟨_, rfl⟩
            rw [← egz2] at eF146
            have m146_t1 : F146 (t + 1) = .inl (ty 0, N, .inl (gz2)) := by rw [eF146]; exact va_up_self ..
            have hO_t_at_146 : F146 (t) = .inr (0, [.ref (ad (t + 1)), .int (iI ((nt : Int)))]) := (show F146 (t) = F36 (t) from by rw [eF146]; exact va_up_ne _ _ (by omega)).trans hO_t
            have hO_a_at_146 : F146 (a) = .inr (0, [.ref (ad (a + 1)), .int (iI ((na : Int)))]) := (show F146 (a) = F36 (a) from by rw [eF146]; exact va_up_ne _ _ (by omega)).trans hO_a
            have hA_a_at_146 : F146 (a + 1) = .inl (ty 0, Na, .inl (ga)) := (show F146 (a + 1) = F36 (a + 1) from by rw [eF146]; exact va_up_ne _ _ (by omega)).trans hA_a
            have hdz : dl gz2 n0 = cy.toNat := by rw [egz2]; exact dl_us (by omega)
            have hdz2 : ∀ k, k < n0 → dl gz2 k = dl gx k := fun k hk => by rw [egz2]; exact dl_un (by omega)
            have hval : bv 2147483648 (dl gz2) (n0 + 1) = vr := by
              rw [bv_s, bv_congr hdz2, hdz]
              have e0 : ((2147483648 ^ n0 : Nat) : Int) = (2147483648 : Int) ^ n0 := by simp
              have e1 : ((cy.toNat * 2147483648 ^ n0 : Nat) : Int) = cy * 2147483648 ^ n0 := by rw [Int.natCast_mul, e0, Int.toNat_of_nonneg hcy.1]
              omega
            have hdg : ∀ j, j < n0 + 1 → dl gz2 j < 2147483648 := fun j hj => by
              rcases Nat.lt_or_ge j n0 with h2 | h2
              · rw [hdz2 j h2]; exact hdig j h2
              · rw [show j = n0 by omega, hdz]; omega
            refine lv_aload_n hx hb d_W_becomeMix_147 rfl (lv_at hl 3 rfl) ?_
            refine lv_iload hx hb d_W_becomeMix_148 (lv_at hl 2 rfl) ?_
            refine wz_iconst (n := 1) hx hb d_W_becomeMix_150 ?_
            refine wz_iadd (z := ((n0 + 1 : Nat) : Int)) hx hb d_W_becomeMix_151 (by omega) ?_
            refine pw_callv hw (va_runV (As := [.int (iI (((n0 + 1 : Nat) : Int)))]) (rest := []) ⟨hx, hb, hml, hown, hq⟩ (c_W_trim l D ty ad M F146 H.size t N (n0 + 1) nt gz2 hMt hN (by omega) hO_t_at_146 m146_t1) (cwV 1 hq (gV ml_W_48 im_W_trim se_W_trim in_W m_W_trim) rfl rfl rfl (by decide +kernel) ⟨Nat.le_of_ble_eq_true rfl, Nat.le_of_ble_eq_true rfl⟩) (pw_preV hw (by omega) hO_t_at_146 rfl) rfl rfl hl.1 rfl (lv_room (Nat.le_of_ble_eq_true rfl)) d_W_becomeMix_152 ⟨Nat.le_of_ble_eq_true rfl, Nat.le_of_ble_eq_true rfl⟩) (fun F152 H locs q152 hw => ?_)
            obtain ⟨k, hk1, hk2, hk3, eF152⟩ := q152
            have hO_a_at_152 : F152 (a) = .inr (0, [.ref (ad (a + 1)), .int (iI ((na : Int)))]) := (show F152 (a) = F146 (a) from by rw [eF152]; exact va_up_ne _ _ (by omega)).trans hO_a_at_146
            have hA_a_at_152 : F152 (a + 1) = .inl (ty 0, Na, .inl (ga)) := (show F152 (a + 1) = F146 (a + 1) from by rw [eF152]; exact va_up_ne _ _ (by omega)).trans hA_a_at_146
            have m146_t1_at_152 : F152 (t + 1) = .inl (ty 0, N, .inl (gz2)) := (show F152 (t + 1) = F146 (t + 1) from by rw [eF152]; exact va_up_ne _ _ (by omega)).trans m146_t1
            rw [← hQ]
            exact pw_vret hx hb hr hlocks hw (⟨⟨k, gz2, ⟨by rw [eF152]; exact va_up_self .., m146_t1_at_152⟩, by rw [← hval]; exact Wok.trim (by omega) hk1 hdg hk2 hk3⟩, fun y h1 h2 => by rw [eF152, va_up_ne _ _ h1, eF146, va_up_ne _ _ h2]; exact hfr y h1 h2⟩) d_W_becomeMix_155
          · have K87 : ∀ (x1 x2 : Nat) (ls : Array Slot), (x1 = lm (dl ga) na i) → (x2 = lm (dl gt) nt i) → lv_has ls 15 [(11, .int (iI ((x1 : Int)))), (10, .int (iI ((i : Int)))), (8, .long (iL (cy))), (7, .int (iI ((n0 : Int)))), (0, .ref (ad (t))), (1, .long (iL (fz))), (3, .ref (ad (a))), (4, .long (iL (gz))), (6, .ref (ad (t)))] → W p l e ({ frames := 2, cells := 0, slots := 0, locals := 46 } : Room) s m ([.ref (ad (t)), .long (iL (fz)), .ref (ad (a)), .long (iL (gz)), .ref (ad (t))]).toArray below meth c H locs 0 0 Q (F0 m 87 ls [.int (iI ((x2 : Int)))]) := by
              intro x1 x2 ls hx1 hx2 hl
              have hl1 : x1 < 2147483648 := by rw [hx1]; exact lm_lt (by decide) hda i
              have hl2 : x2 < 2147483648 := by rw [hx2]; exact lm_lt (by decide) hdb i
              obtain ⟨S, hS⟩ : ∃ S : Int, S = fz * (x1 : Int) + gz * (x2 : Int) + cy := ⟨_, rfl⟩
              have hSb := mx_bound (x := x1) (y := x2) hf hg (by omega) (by omega) hc
              rw [← hS] at hSb
              refine lv_istore (lv' := [(12, .int (iI ((x2 : Int)))), (11, .int (iI ((x1 : Int)))), (10, .int (iI ((i : Int)))), (8, .long (iL (cy))), (7, .int (iI ((n0 : Int)))), (0, .ref (ad (t))), (1, .long (iL (fz))), (3, .ref (ad (a))), (4, .long (iL (gz))), (6, .ref (ad (t)))]) hx hb d_W_becomeMix_87 hl (by decide) rfl (fun ls hl => ?_)
              refine lv_lload_n hx hb d_W_becomeMix_89 rfl (lv_at hl 6 rfl) ?_
              refine lv_iload hx hb d_W_becomeMix_90 (lv_at hl 1 rfl) ?_
              refine wz_i2l hx hb d_W_becomeMix_92 (by omega) (by omega) ?_
              refine wz_lmul hx hb d_W_becomeMix_93 rfl ?_
              refine lv_lload hx hb d_W_becomeMix_94 (lv_at hl 8 rfl) ?_
              refine lv_iload hx hb d_W_becomeMix_96 (lv_at hl 0 rfl) ?_
              refine wz_i2l hx hb d_W_becomeMix_98 (by omega) (by omega) ?_
              refine wz_lmul hx hb d_W_becomeMix_99 rfl ?_
              refine wz_ladd hx hb d_W_becomeMix_100 rfl ?_
              refine lv_lload hx hb d_W_becomeMix_101 (lv_at hl 3 rfl) ?_
              refine wz_ladd (z := S) hx hb d_W_becomeMix_103 (hS.symm) ?_
              refine lv_lstore (lv' := [(13, .long (iL (S))), (12, .int (iI ((x2 : Int)))), (11, .int (iI ((x1 : Int)))), (10, .int (iI ((i : Int)))), (8, .long (iL (cy))), (7, .int (iI ((n0 : Int)))), (0, .ref (ad (t))), (1, .long (iL (fz))), (3, .ref (ad (a))), (4, .long (iL (gz))), (6, .ref (ad (t)))]) hx hb d_W_becomeMix_104 hl (by decide) rfl (fun ls hl => ?_)
              refine lv_aload_n hx hb d_W_becomeMix_106 rfl (lv_at hl 6 rfl) ?_
              refine pw_get (ci := 0) (C := R_W) (T := T_W) (N := 2) hx hb hq i_W hown hw (by omega) hO_t rfl 0 (by decide) (hq _ fl_W_17) (fun _ h9 => h9) rfl d_W_becomeMix_107 ?_
              refine lv_iload hx hb d_W_becomeMix_110 (lv_at hl 3 rfl) ?_
              refine lv_lload hx hb d_W_becomeMix_112 (lv_at hl 0 rfl) ?_
              refine lv_ldc2 (v := iL (2147483647)) hx hb hown (hq _ cj_W_43) d_W_becomeMix_114 ?_
              refine lv_land hx hb d_W_becomeMix_117 ?_
              refine lv_topl (fun x117 ex117 => ?_)
              obtain rfl : x117 = iL (((S % 2147483648).toNat : Int)) := ex117.trans ((iL_m31 _).trans (congrArg iL (by omega)))
              refine wz_l2i hx hb d_W_becomeMix_118 ?_
              refine pw_iast (k := i) hx hb hw 0 (by omega) hA_t rfl (iI_in (by omega) (by omega) (by omega)) ((iI_cl (by omega) (by omega)).trans (by omega)) d_W_becomeMix_119 (fun F119 H locs eF119 hw => ?_)
              obtain ⟨gy, egy⟩ : ∃ z, z = upd gx (i) (iI (((S % 2147483648).toNat : Int))) := ⟨_, rfl⟩
              rw [← egy] at eF119
              have m119_t1 : F119 (t + 1) = .inl (ty 0, N, .inl (gy)) := by rw [eF119]; exact va_up_self ..
              have hO_t_at_119 : F119 (t) = .inr (0, [.ref (ad (t + 1)), .int (iI ((nt : Int)))]) := (show F119 (t) = F36 (t) from by rw [eF119]; exact va_up_ne _ _ (by omega)).trans hO_t
              have hO_a_at_119 : F119 (a) = .inr (0, [.ref (ad (a + 1)), .int (iI ((na : Int)))]) := (show F119 (a) = F36 (a) from by rw [eF119]; exact va_up_ne _ _ (by omega)).trans hO_a
              have hA_a_at_119 : F119 (a + 1) = .inl (ty 0, Na, .inl (ga)) := (show F119 (a + 1) = F36 (a + 1) from by rw [eF119]; exact va_up_ne _ _ (by omega)).trans hA_a
              have hdy : dl gy i = (S % 2147483648).toNat := by rw [egy]; exact dl_us (by omega)
              refine lv_lload hx hb d_W_becomeMix_120 (lv_at hl 0 rfl) ?_
              refine wz_bipush (n := 31) hx hb d_W_becomeMix_122 (by decide) ?_
              refine lv_lshr (v := iL (S / 2147483648)) hx hb d_W_becomeMix_124 (iL_shr (k := 31) (by decide) hSb.1 hSb.2) ?_
              refine lv_lstore (lv' := [(8, .long (iL (S / 2147483648))), (13, .long (iL (S))), (12, .int (iI ((x2 : Int)))), (11, .int (iI ((x1 : Int)))), (10, .int (iI ((i : Int)))), (7, .int (iI ((n0 : Int)))), (0, .ref (ad (t))), (1, .long (iL (fz))), (3, .ref (ad (a))), (4, .long (iL (gz))), (6, .ref (ad (t)))]) hx hb d_W_becomeMix_125 hl (by decide) rfl (fun ls hl => ?_)
              refine wz_iinc (z := ((i + 1 : Nat) : Int)) (lv' := [(10, .int (iI (((i + 1 : Nat) : Int)))), (8, .long (iL (S / 2147483648))), (13, .long (iL (S))), (12, .int (iI ((x2 : Int)))), (11, .int (iI ((x1 : Int)))), (7, .int (iI ((n0 : Int)))), (0, .ref (ad (t))), (1, .long (iL (fz))), (3, .ref (ad (a))), (4, .long (iL (gz))), (6, .ref (ad (t)))]) hx hb d_W_becomeMix_127 hl (k := 4) rfl (by omega) (by decide) rfl (fun ls hl => ?_)
              refine lv_goto (tgt := 36) hx hb d_W_becomeMix_130 (by decide) ?_
              exact ih36 (i + 1) (S / 2147483648) gy _ _ _ ls (by omega) (by omega) (mx_step hinv (by rw [hS, hx1, hx2]) (by rw [hdy]; omega) (fun k hk => by rw [egy]; exact dl_un (by omega))) (by omega) (fun k h1 => by
                rcases Nat.lt_or_ge k i with h2 | h2
                · rw [egy, dl_un (by omega)]; exact hdig k h2
                · rw [show k = i by omega, hdy]; omega) (fun k h1 => by rw [egy, pk_un (by omega)]; exact hsame k (by omega)) (fun y h1 h2 => by rw [eF119, va_up_ne _ _ h2]; exact hfr y h1 h2) hO_t_at_119 m119_t1 hO_a_at_119 hA_a_at_119 hw (lv_sub hl [0, 1, 5, 6, 7, 8, 9, 10] rfl)
            have K63 : ∀ (x1 : Nat) (ls : Array Slot), (x1 = lm (dl ga) na i) → lv_has ls 15 [(10, .int (iI ((i : Int)))), (8, .long (iL (cy))), (7, .int (iI ((n0 : Int)))), (0, .ref (ad (t))), (1, .long (iL (fz))), (3, .ref (ad (a))), (4, .long (iL (gz))), (6, .ref (ad (t)))] → W p l e ({ frames := 2, cells := 0, slots := 0, locals := 46 } : Room) s m ([.ref (ad (t)), .long (iL (fz)), .ref (ad (a)), .long (iL (gz)), .ref (ad (t))]).toArray below meth c H locs 0 0 Q (F0 m 63 ls [.int (iI ((x1 : Int)))]) := by
              intro x1 ls hx1 hl
              refine lv_istore (lv' := [(11, .int (iI ((x1 : Int)))), (10, .int (iI ((i : Int)))), (8, .long (iL (cy))), (7, .int (iI ((n0 : Int)))), (0, .ref (ad (t))), (1, .long (iL (fz))), (3, .ref (ad (a))), (4, .long (iL (gz))), (6, .ref (ad (t)))]) hx hb d_W_becomeMix_63 hl (by decide) rfl (fun ls hl => ?_)
              refine lv_iload hx hb d_W_becomeMix_65 (lv_at hl 1 rfl) ?_
              refine lv_aload hx hb d_W_becomeMix_67 (lv_at hl 8 rfl) ?_
              refine pw_get (ci := 0) (C := R_W) (T := T_W) (N := 2) hx hb hq i_W hown hw (by omega) hO_t rfl 1 (by decide) (hq _ fl_W_21) (fun _ h9 => h9) rfl d_W_becomeMix_69 ?_
              refine wz_icmp_ge (tgt := 86) hx hb d_W_becomeMix_72 (by decide) (by omega) (by omega) (by omega) (by omega) (fun c72 => ?_) (fun c72 => ?_)
              · refine wz_iconst (n := 0) hx hb d_W_becomeMix_86 ?_
                exact K87 x1 0 ls (hx1) (by unfold lm; rw [if_neg (by omega)]) hl
              · refine lv_aload hx hb d_W_becomeMix_75 (lv_at hl 8 rfl) ?_
                refine pw_get (ci := 0) (C := R_W) (T := T_W) (N := 2) hx hb hq i_W hown hw (by omega) hO_t rfl 0 (by decide) (hq _ fl_W_17) (fun _ h9 => h9) rfl d_W_becomeMix_77 ?_
                refine lv_iload hx hb d_W_becomeMix_80 (lv_at hl 1 rfl) ?_
                refine pw_iald (k := i) hx hb hw 0 (by omega) hA_t rfl (iI_in (by omega) (by omega) (by omega)) ((iI_cl (by omega) (by omega)).trans (by omega)) d_W_becomeMix_82 ?_
                refine lv_topi (fun x82 ex82 => ?_)
                obtain rfl : x82 = iI ((dl gt i : Int)) := ex82.trans ((hsame i (Nat.le_refl _)).trans (dl_get (hdb i (by omega))))
                refine lv_goto (tgt := 87) hx hb d_W_becomeMix_83 (by decide) ?_
                exact K87 x1 (dl gt i) ls (hx1) (by unfold lm; rw [if_pos (by omega)]) hl
            refine lv_iload hx hb d_W_becomeMix_43 (lv_at hl 0 rfl) ?_
            refine lv_aload_n hx hb d_W_becomeMix_45 rfl (lv_at hl 5 rfl) ?_
            refine pw_get (ci := 0) (C := R_W) (T := T_W) (N := 2) hx hb hq i_W hown hw (by omega) hO_a rfl 1 (by decide) (hq _ fl_W_21) (fun _ h9 => h9) rfl d_W_becomeMix_46 ?_
            refine wz_icmp_ge (tgt := 62) hx hb d_W_becomeMix_49 (by decide) (by omega) (by omega) (by omega) (by omega) (fun c49 => ?_) (fun c49 => ?_)
            · refine wz_iconst (n := 0) hx hb d_W_becomeMix_62 ?_
              exact K63 0 ls (by unfold lm; rw [if_neg (by omega)]) hl
            · refine lv_aload_n hx hb d_W_becomeMix_52 rfl (lv_at hl 5 rfl) ?_
              refine pw_get (ci := 0) (C := R_W) (T := T_W) (N := 2) hx hb hq i_W hown hw (by omega) hO_a rfl 0 (by decide) (hq _ fl_W_17) (fun _ h9 => h9) rfl d_W_becomeMix_53 ?_
              refine lv_iload hx hb d_W_becomeMix_56 (lv_at hl 0 rfl) ?_
              refine pw_iald (k := i) hx hb hw 0 (by omega) hA_a rfl (iI_in (by omega) (by omega) (by omega)) ((iI_cl (by omega) (by omega)).trans (by omega)) d_W_becomeMix_58 ?_
              refine lv_topi (fun x58 ex58 => ?_)
              obtain rfl : x58 = iI ((dl ga i : Int)) := ex58.trans (dl_get (hda i (by omega)))
              refine lv_goto (tgt := 63) hx hb d_W_becomeMix_59 (by decide) ?_
              exact K63 (dl ga i) ls (by unfold lm; rw [if_pos (by omega)]) hl
      exact K36 _ 0 0 gt _ _ _ ls (Nat.lt_succ_self _) (Nat.zero_le _) (by simp [bv_0]) (by omega) (fun j h1 => absurd h1 (by omega)) (fun _ _ => rfl) (fun _ _ _ => rfl) hO_t hA_t hO_a hA_a hw hl
    · exact absurd c21 (by omega)
  rw [hH, hlo] at hgo
  exact hgo
