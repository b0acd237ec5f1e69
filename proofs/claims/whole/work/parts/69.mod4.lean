/-! the reference: times, scale, takes, givesBack: by program -/
set_option maxHeartbeats 4000000 in
set_option maxRecDepth 100000 in
/-- times(to, a, b) -/
theorem c_M_times (l : Launch) (D : va_G) (ty : Nat → ClassId) (ad : Nat → Nat) (M : Nat) (F : Nat → va_E) (sz : Nat) (hM : 103 < M) (co ln wr : Int) (hO : F 98 = oM ad co ln wr) (to a b1 : Nat) (za zb : Int) (hto : to < 43) (ha : a < 43) (hb1 : b1 < 43) (hna : to ≠ a) (hnb : to ≠ b1) (hNa : Nm ty F a za) (hNb : Nm ty F b1 zb) (hmm : md (za.natAbs * zb.natAbs)) :
    CV l y_M_times w_M_times ({ frames := 1, cells := 0, slots := 0, locals := 21 } : Room) [.ref (ad (98)), .int (iI ((to : Int))), .int (iI ((a : Int))), .int (iI ((b1 : Int)))] D ty ad M F sz (fun F1 => Nm ty F1 to (za * zb) ∧ kp ty F F1 (fun c => c = to) ∧ frM F F1) := by
  refine Met.ofW (cc := b_M_times) (maxL := 11) (ret := none) (by decide) rfl ?_
  intro p e s m args below meth c s₁ B hml hv
  obtain ⟨rfl, hsz, hP, hK, hD0⟩ := hv
  have hx := B.exec
  have hb := B.bytes
  have hr := B.returns
  have hts := atoms_spec (ws := w_M_times) B.pre
  have hq : ∀ w ∈ wT, w.before _ s = true := fun w h => hts w (List.mem_cons_of_mem _ h)
  have hown : s.vm.findClass R_M = some m.cls := findClass_of_methodNamed B.named
  have hlocks := B.notSynchronized
  subst hsz
  have hw := pw_start hP hK hD0
  have hl := lv_entry ([.ref (ad (98)), .int (iI ((to : Int))), .int (iI ((a : Int))), .int (iI ((b1 : Int)))]) (n := 11) (Nat.le_of_ble_eq_true rfl)
  rw [lg_entry_eq]
  generalize (lg_sl ([.ref (ad (98)), .int (iI ((to : Int))), .int (iI ((a : Int))), .int (iI ((b1 : Int)))]) ++ List.replicate (11 - (lg_sl ([.ref (ad (98)), .int (iI ((to : Int))), .int (iI ((a : Int))), .int (iI ((b1 : Int)))])).length) Slot.unset).toArray = ls at hl ⊢
  have hl : lv_has ls 11 [(0, .ref (ad (98))), (1, .int (iI ((to : Int)))), (2, .int (iI ((a : Int)))), (3, .int (iI ((b1 : Int))))] := hl
  change W p l e ({ frames := 1, cells := 0, slots := 0, locals := 21 } : Room) s m ([.ref (ad (98)), .int (iI ((to : Int))), .int (iI ((a : Int))), .int (iI ((b1 : Int)))]).toArray below meth c s.heap [] 0 0 (MQ below (va_Qv (fun F1 => Nm ty F1 to (za * zb) ∧ kp ty F F1 (fun c => c = to) ∧ frM F F1) (pAt D classes (tysL ty) ad M (pA ad M s.heap.size)) (pA ad M s.heap.size)) ([.ref (ad (98)), .int (iI ((to : Int))), .int (iI ((a : Int))), .int (iI ((b1 : Int)))]).toArray s 0 0 (pA ad M s.heap.size)) (F0 m 0 ls [])
  generalize hQ : MQ below (va_Qv (fun F1 => Nm ty F1 to (za * zb) ∧ kp ty F F1 (fun c => c = to) ∧ frM F F1) (pAt D classes (tysL ty) ad M (pA ad M s.heap.size)) (pA ad M s.heap.size)) ([.ref (ad (98)), .int (iI ((to : Int))), .int (iI ((a : Int))), .int (iI ((b1 : Int)))]).toArray s 0 0 (pA ad M s.heap.size) = Q
  obtain ⟨H, hH⟩ : ∃ H, H = s.heap := ⟨_, rfl⟩
  obtain ⟨locs, hlo⟩ : ∃ z : List Loc, z = [] := ⟨_, rfl⟩
  have hw : pw D classes (tysL ty) ad M F (pA ad M s.heap.size) s H locs := by rw [hH, hlo]; exact hw
  have hgo : W p l e ({ frames := 1, cells := 0, slots := 0, locals := 21 } : Room) s m ([.ref (ad (98)), .int (iI ((to : Int))), .int (iI ((a : Int))), .int (iI ((b1 : Int)))]).toArray below meth c H locs 0 0 Q (F0 m 0 ls []) := by
    obtain ⟨P, S, G, hMA, ⟨na, hSa, h3a, hDa, hta, hva⟩, hGa⟩ := id hNa
    obtain ⟨⟨nb, hSb, h3b, hDb, htb, hvb⟩, hGb⟩ := hNb.nu hMA
    obtain ⟨h99, h100, h101⟩ := id hMA
    have hn3 : na + nb ≤ 300 := mul_n (P := P) (a := a) (b := b1) h3a h3b hta htb (by rw [hva, hvb]; exact hmm)
    have hsa := sB_c za
    have hsb := sB_c zb
    refine lv_aload_n hx hb d_M_times_0 rfl (lv_at hl 0 rfl) ?_
    refine pw_get (ci := 6) (C := R_M) (T := T_M) (N := 8) hx hb hq i_M hown hw (by omega) hO rfl 2 (by decide) (hq _ fl_M_13) (fun _ h9 => h9) rfl d_M_times_1 ?_
    refine lv_iload_n hx hb d_M_times_4 rfl (lv_at hl 2 rfl) ?_
    refine pw_iald (k := a) hx hb hw 0 (by omega) h100 rfl (iI_in (by omega) (by omega) (by omega)) ((iI_cl (by omega) (by omega)).trans (by omega)) d_M_times_5 ?_
    refine lv_topi (fun x5 ex5 => ?_)
    obtain rfl : x5 = iI ((na : Int)) := ex5.trans (hSa)
    refine lv_aload_n hx hb d_M_times_6 rfl (lv_at hl 0 rfl) ?_
    refine pw_get (ci := 6) (C := R_M) (T := T_M) (N := 8) hx hb hq i_M hown hw (by omega) hO rfl 2 (by decide) (hq _ fl_M_13) (fun _ h9 => h9) rfl d_M_times_7 ?_
    refine lv_iload_n hx hb d_M_times_10 rfl (lv_at hl 3 rfl) ?_
    refine pw_iald (k := b1) hx hb hw 0 (by omega) h100 rfl (iI_in (by omega) (by omega) (by omega)) ((iI_cl (by omega) (by omega)).trans (by omega)) d_M_times_11 ?_
    refine lv_topi (fun x11 ex11 => ?_)
    obtain rfl : x11 = iI ((nb : Int)) := ex11.trans (hSb)
    refine wz_iadd (z := ((na + nb : Nat) : Int)) hx hb d_M_times_12 (by omega) ?_
    refine lv_istore (lv' := [(4, .int (iI (((na + nb : Nat) : Int)))), (0, .ref (ad (98))), (1, .int (iI ((to : Int)))), (2, .int (iI ((a : Int)))), (3, .int (iI ((b1 : Int))))]) hx hb d_M_times_13 hl (by decide) rfl (fun ls hl => ?_)
    refine wz_iconst (n := 0) hx hb d_M_times_15 ?_
    refine lv_istore (lv' := [(5, .int (iI (0))), (4, .int (iI (((na + nb : Nat) : Int)))), (0, .ref (ad (98))), (1, .int (iI ((to : Int)))), (2, .int (iI ((a : Int)))), (3, .int (iI ((b1 : Int))))]) hx hb d_M_times_16 hl (by decide) rfl (fun ls hl => ?_)
    have K18 : ∀ (fuel : Nat) (k : Nat) (P9 : Nat → Int32) (F18 : Nat → va_E) (H : Heap) (locs : List Loc) (ls : Array Slot), na + nb - k < fuel → (k ≤ na + nb) → (∀ i, i < k → P9 (300 * to + i) = iI 0) → (∀ j, j < 300 * to ∨ 300 * to + 300 ≤ j → P9 j = P j) → (∀ y, y ≠ 99 → F18 y = F y) → F18 (98) = .inr (6, [.int (iI (co)), .ref (ad (99)), .ref (ad (100)), .ref (ad (101)), .ref (ad (102)), .int (iI (ln)), .int (iI (wr)), .ref (ad (103))]) → F18 (99) = .inl (ty 0, 12900, .inl (P9)) → F18 (100) = .inl (ty 0, 43, .inl (S)) → F18 (101) = .inl (ty 4, 43, .inl (G)) → pw D classes (tysL ty) ad M F18 (pA ad M s.heap.size) s H locs → lv_has ls 11 [(0, .ref (ad (98))), (1, .int (iI ((to : Int)))), (2, .int (iI ((a : Int)))), (3, .int (iI ((b1 : Int)))), (4, .int (iI (((na + nb : Nat) : Int)))), (5, .int (iI ((k : Int))))] → W p l e ({ frames := 1, cells := 0, slots := 0, locals := 21 } : Room) s m ([.ref (ad (98)), .int (iI ((to : Int))), .int (iI ((a : Int))), .int (iI ((b1 : Int)))]).toArray below meth c H locs 0 0 Q (F0 m 18 ls []) := by
      intro fuel
      induction fuel with
      | zero => intro k P9 F18 H locs ls hfuel hk hz hPo hfr hO h99 h100 h101 hw hl; exact absurd hfuel (Nat.not_lt_zero _)
      | succ fuel ih18 =>
        intro k P9 F18 H locs ls hfuel hk hz hPo hfr hO h99 h100 h101 hw hl
        refine lv_iload hx hb d_M_times_18 (lv_at hl 5 rfl) ?_
        refine lv_iload hx hb d_M_times_20 (lv_at hl 4 rfl) ?_
        refine wz_icmp_ge (tgt := 45) hx hb d_M_times_22 (by decide) (by omega) (by omega) (by omega) (by omega) (fun c22 => ?_) (fun c22 => ?_)
        · have hkn : k = na + nb := by omega
          subst hkn
          refine wz_iconst (n := 0) hx hb d_M_times_45 ?_
          refine lv_istore (lv' := [(5, .int (iI (0))), (0, .ref (ad (98))), (1, .int (iI ((to : Int)))), (2, .int (iI ((a : Int)))), (3, .int (iI ((b1 : Int)))), (4, .int (iI (((na + nb : Nat) : Int))))]) hx hb d_M_times_46 hl (by decide) rfl (fun ls hl => ?_)
          have K48 : ∀ (fuel : Nat) (i : Nat) (P8 : Nat → Int32) (F48 : Nat → va_E) (H : Heap) (locs : List Loc) (ls : Array Slot), na - i < fuel → (i ≤ na) → (bvP P8 to (i + nb) = bvP P a i * zb.natAbs) → (Dg P8 to (i + nb)) → (∀ j, j < 300 * to ∨ 300 * to + 300 ≤ j → P8 j = P j) → (∀ y, y ≠ 99 → F48 y = F y) → F48 (98) = .inr (6, [.int (iI (co)), .ref (ad (99)), .ref (ad (100)), .ref (ad (101)), .ref (ad (102)), .int (iI (ln)), .int (iI (wr)), .ref (ad (103))]) → F48 (99) = .inl (ty 0, 12900, .inl (P8)) → F48 (100) = .inl (ty 0, 43, .inl (S)) → F48 (101) = .inl (ty 4, 43, .inl (G)) → pw D classes (tysL ty) ad M F48 (pA ad M s.heap.size) s H locs → lv_has ls 11 [(0, .ref (ad (98))), (1, .int (iI ((to : Int)))), (2, .int (iI ((a : Int)))), (3, .int (iI ((b1 : Int)))), (4, .int (iI (((na + nb : Nat) : Int)))), (5, .int (iI ((i : Int))))] → W p l e ({ frames := 1, cells := 0, slots := 0, locals := 21 } : Room) s m ([.ref (ad (98)), .int (iI ((to : Int))), .int (iI ((a : Int))), .int (iI ((b1 : Int)))]).toArray below meth c H locs 0 0 Q (F0 m 48 ls []) := by
            intro fuel
            induction fuel with
            | zero => intro i P8 F48 H locs ls hfuel hi hval8 hDg8 hPo8 hfr8 hO h99 h100 h101 hw hl; exact absurd hfuel (Nat.not_lt_zero _)
            | succ fuel ih48 =>
              intro i P8 F48 H locs ls hfuel hi hval8 hDg8 hPo8 hfr8 hO h99 h100 h101 hw hl
              refine lv_iload hx hb d_M_times_48 (lv_at hl 5 rfl) ?_
              refine lv_aload_n hx hb d_M_times_50 rfl (lv_at hl 0 rfl) ?_
              refine pw_get (ci := 6) (C := R_M) (T := T_M) (N := 8) hx hb hq i_M hown hw (by omega) hO rfl 2 (by decide) (hq _ fl_M_13) (fun _ h9 => h9) rfl d_M_times_51 ?_
              refine lv_iload_n hx hb d_M_times_54 rfl (lv_at hl 2 rfl) ?_
              refine pw_iald (k := a) hx hb hw 0 (by omega) h100 rfl (iI_in (by omega) (by omega) (by omega)) ((iI_cl (by omega) (by omega)).trans (by omega)) d_M_times_55 ?_
              refine lv_topi (fun x55 ex55 => ?_)
              obtain rfl : x55 = iI ((na : Int)) := ex55.trans (hSa)
              refine wz_icmp_ge (tgt := 194) hx hb d_M_times_56 (by decide) (by omega) (by omega) (by omega) (by omega) (fun c56 => ?_) (fun c56 => ?_)
              · have hin9 : na = i := by omega
                subst hin9
                refine lv_aload_n hx hb d_M_times_194 rfl (lv_at hl 0 rfl) ?_
                refine pw_get (ci := 6) (C := R_M) (T := T_M) (N := 8) hx hb hq i_M hown hw (by omega) hO rfl 2 (by decide) (hq _ fl_M_13) (fun _ h9 => h9) rfl d_M_times_195 ?_
                refine lv_iload_n hx hb d_M_times_198 rfl (lv_at hl 1 rfl) ?_
                refine lv_iload hx hb d_M_times_199 (lv_at hl 4 rfl) ?_
                refine pw_iast (k := to) hx hb hw 0 (by omega) h100 rfl (iI_in (by omega) (by omega) (by omega)) ((iI_cl (by omega) (by omega)).trans (by omega)) d_M_times_201 (fun F201 H locs eF201 hw => ?_)
                obtain ⟨S9, eS9⟩ : ∃ z9, z9 = upd S (to) (iI (((na + nb : Nat) : Int))) := ⟨_, rfl⟩
                rw [← eS9] at eF201
                have m201_100 : F201 (100) = .inl (ty 0, 43, .inl (S9)) := by rw [eF201]; exact va_up_self ..
                have hO_at_201 : F201 (98) = .inr (6, [.int (iI (co)), .ref (ad (99)), .ref (ad (100)), .ref (ad (101)), .ref (ad (102)), .int (iI (ln)), .int (iI (wr)), .ref (ad (103))]) := (show F201 (98) = F48 (98) from by rw [eF201]; exact va_up_ne _ _ (by omega)).trans hO
                have h99_at_201 : F201 (99) = .inl (ty 0, 12900, .inl (P8)) := (show F201 (99) = F48 (99) from by rw [eF201]; exact va_up_ne _ _ (by omega)).trans h99
                have h101_at_201 : F201 (101) = .inl (ty 4, 43, .inl (G)) := (show F201 (101) = F48 (101) from by rw [eF201]; exact va_up_ne _ _ (by omega)).trans h101
                refine lv_aload_n hx hb d_M_times_202 rfl (lv_at hl 0 rfl) ?_
                refine pw_get (ci := 6) (C := R_M) (T := T_M) (N := 8) hx hb hq i_M hown hw (by omega) hO_at_201 rfl 3 (by decide) (hq _ fl_M_16) (fun _ h9 => h9) rfl d_M_times_203 ?_
                refine lv_iload_n hx hb d_M_times_206 rfl (lv_at hl 1 rfl) ?_
                refine lv_aload_n hx hb d_M_times_207 rfl (lv_at hl 0 rfl) ?_
                refine pw_get (ci := 6) (C := R_M) (T := T_M) (N := 8) hx hb hq i_M hown hw (by omega) hO_at_201 rfl 3 (by decide) (hq _ fl_M_16) (fun _ h9 => h9) rfl d_M_times_208 ?_
                refine lv_iload_n hx hb d_M_times_211 rfl (lv_at hl 2 rfl) ?_
                refine pw_zald (k := a) hx hb hw 4 (by omega) h101_at_201 rfl (iI_in (by omega) (by omega) (by omega)) ((iI_cl (by omega) (by omega)).trans (by omega)) d_M_times_212 ?_
                refine lv_topi (fun x212 ex212 => ?_)
                obtain rfl : x212 = iI ((sB za : Int)) := ex212.trans (hGa)
                refine lv_aload_n hx hb d_M_times_213 rfl (lv_at hl 0 rfl) ?_
                refine pw_get (ci := 6) (C := R_M) (T := T_M) (N := 8) hx hb hq i_M hown hw (by omega) hO_at_201 rfl 3 (by decide) (hq _ fl_M_16) (fun _ h9 => h9) rfl d_M_times_214 ?_
                refine lv_iload_n hx hb d_M_times_217 rfl (lv_at hl 3 rfl) ?_
                refine pw_zald (k := b1) hx hb hw 4 (by omega) h101_at_201 rfl (iI_in (by omega) (by omega) (by omega)) ((iI_cl (by omega) (by omega)).trans (by omega)) d_M_times_218 ?_
                refine lv_topi (fun x218 ex218 => ?_)
                obtain rfl : x218 = iI ((sB zb : Int)) := ex218.trans (hGb)
                refine wz_icmp_eq (tgt := 226) hx hb d_M_times_219 (by decide) (by omega) (by omega) (by omega) (by omega) (fun c219 => ?_) (fun c219 => ?_)
                · refine wz_iconst (n := 0) hx hb d_M_times_226 ?_
                  refine pw_zast (k := to) hx hb hw 4 (by omega) h101_at_201 rfl (iI_in (by omega) (by omega) (by omega)) ((iI_cl (by omega) (by omega)).trans (by omega)) (y := iI (0)) (by decide) d_M_times_227 (fun F227 H locs eF227 hw => ?_)
                  obtain ⟨G9, eG9⟩ : ∃ z9, z9 = upd G (to) (iI (0)) := ⟨_, rfl⟩
                  rw [← eG9] at eF227
                  have m227_101 : F227 (101) = .inl (ty 4, 43, .inl (G9)) := by rw [eF227]; exact va_up_self ..
                  have hO_at_227 : F227 (98) = .inr (6, [.int (iI (co)), .ref (ad (99)), .ref (ad (100)), .ref (ad (101)), .ref (ad (102)), .int (iI (ln)), .int (iI (wr)), .ref (ad (103))]) := (show F227 (98) = F201 (98) from by rw [eF227]; exact va_up_ne _ _ (by omega)).trans hO_at_201
                  have h99_at_227 : F227 (99) = .inl (ty 0, 12900, .inl (P8)) := (show F227 (99) = F201 (99) from by rw [eF227]; exact va_up_ne _ _ (by omega)).trans h99_at_201
                  have m201_100_at_227 : F227 (100) = .inl (ty 0, 43, .inl (S9)) := (show F227 (100) = F201 (100) from by rw [eF227]; exact va_up_ne _ _ (by omega)).trans m201_100
                  refine lv_aload_n hx hb d_M_times_228 rfl (lv_at hl 0 rfl) ?_
                  refine lv_iload_n hx hb d_M_times_229 rfl (lv_at hl 1 rfl) ?_
                  refine pw_callv hw (va_runV (As := [.int (iI ((to : Int)))]) (rest := []) ⟨hx, hb, hml, hown, hq⟩ (c_M_trim l D ty ad M F227 H.size hM co ln wr hO_at_227 P8 S9 G9 ⟨h99_at_227, m201_100_at_227, m227_101⟩ to (na + nb) hto (by rw [eS9, pk_us]) (by omega) (hDg8)) (cwV 1 hq (gV ml_M_39 im_M_trim se_M_trim in_M m_M_trim) rfl rfl rfl (by decide +kernel) ⟨Nat.le_of_ble_eq_true rfl, Nat.le_of_ble_eq_true rfl⟩) (pw_preV hw (by omega) hO_at_227 rfl) rfl rfl hl.1 rfl (lv_room (Nat.le_of_ble_eq_true rfl)) d_M_times_230 ⟨Nat.le_of_ble_eq_true rfl, Nat.le_of_ble_eq_true rfl⟩) (fun F230 H locs q230 hw => ?_)
                  obtain ⟨S8, B8, hMA8, hMg8, hB8, ho8, hf8⟩ := q230
                  have hO_at_230 : F230 (98) = .inr (6, [.int (iI (co)), .ref (ad (99)), .ref (ad (100)), .ref (ad (101)), .ref (ad (102)), .int (iI (ln)), .int (iI (wr)), .ref (ad (103))]) := (hf8 (98) (by omega) (by omega) (by omega)).trans hO_at_227
                  rw [← hQ]
                  exact pw_vret hx hb hr hlocks hw (by
                    have hv9 : bvP P8 to (na + nb) = za.natAbs * zb.natAbs := by rw [hval8, hva]
                    rw [hv9] at hMg8 hB8
                    obtain ⟨h1, h2⟩ := fin_trim (z := za * zb) hMA hMA8 hMg8 hB8 ho8 (fun c9 h9 => by rw [eS9, pk_un h9]) (fun c9 h9 => by rw [eG9, pk_un h9]) hPo8 (Int.natAbs_mul _ _) (fun h9 => by rw [eG9, pk_us, ← zg_mul h9, if_pos (by omega)]; rfl)
                    exact ⟨h1, h2, fun y9 h3 h4 h5 => ((hf8 (y9) (by omega) (by omega) (by omega)).trans ((show F227 (y9) = F201 (y9) from by rw [eF227]; exact va_up_ne _ _ (by omega)).trans (show F201 (y9) = F48 (y9) from by rw [eF201]; exact va_up_ne _ _ (by omega)))).trans (hfr8 y9 h3)⟩) d_M_times_233
                · refine wz_iconst (n := 1) hx hb d_M_times_222 ?_
                  refine lv_goto (tgt := 227) hx hb d_M_times_223 (by decide) ?_
                  refine pw_zast (k := to) hx hb hw 4 (by omega) h101_at_201 rfl (iI_in (by omega) (by omega) (by omega)) ((iI_cl (by omega) (by omega)).trans (by omega)) (y := iI (1)) (by decide) d_M_times_227 (fun F227 H locs eF227 hw => ?_)
                  obtain ⟨G9, eG9⟩ : ∃ z9, z9 = upd G (to) (iI (1)) := ⟨_, rfl⟩
                  rw [← eG9] at eF227
                  have m227_101 : F227 (101) = .inl (ty 4, 43, .inl (G9)) := by rw [eF227]; exact va_up_self ..
                  have hO_at_227 : F227 (98) = .inr (6, [.int (iI (co)), .ref (ad (99)), .ref (ad (100)), .ref (ad (101)), .ref (ad (102)), .int (iI (ln)), .int (iI (wr)), .ref (ad (103))]) := (show F227 (98) = F201 (98) from by rw [eF227]; exact va_up_ne _ _ (by omega)).trans hO_at_201
                  have h99_at_227 : F227 (99) = .inl (ty 0, 12900, .inl (P8)) := (show F227 (99) = F201 (99) from by rw [eF227]; exact va_up_ne _ _ (by omega)).trans h99_at_201
                  have m201_100_at_227 : F227 (100) = .inl (ty 0, 43, .inl (S9)) := (show F227 (100) = F201 (100) from by rw [eF227]; exact va_up_ne _ _ (by omega)).trans m201_100
                  refine lv_aload_n hx hb d_M_times_228 rfl (lv_at hl 0 rfl) ?_
                  refine lv_iload_n hx hb d_M_times_229 rfl (lv_at hl 1 rfl) ?_
                  refine pw_callv hw (va_runV (As := [.int (iI ((to : Int)))]) (rest := []) ⟨hx, hb, hml, hown, hq⟩ (c_M_trim l D ty ad M F227 H.size hM co ln wr hO_at_227 P8 S9 G9 ⟨h99_at_227, m201_100_at_227, m227_101⟩ to (na + nb) hto (by rw [eS9, pk_us]) (by omega) (hDg8)) (cwV 1 hq (gV ml_M_39 im_M_trim se_M_trim in_M m_M_trim) rfl rfl rfl (by decide +kernel) ⟨Nat.le_of_ble_eq_true rfl, Nat.le_of_ble_eq_true rfl⟩) (pw_preV hw (by omega) hO_at_227 rfl) rfl rfl hl.1 rfl (lv_room (Nat.le_of_ble_eq_true rfl)) d_M_times_230 ⟨Nat.le_of_ble_eq_true rfl, Nat.le_of_ble_eq_true rfl⟩) (fun F230 H locs q230 hw => ?_)
                  obtain ⟨S8, B8, hMA8, hMg8, hB8, ho8, hf8⟩ := q230
                  have hO_at_230 : F230 (98) = .inr (6, [.int (iI (co)), .ref (ad (99)), .ref (ad (100)), .ref (ad (101)), .ref (ad (102)), .int (iI (ln)), .int (iI (wr)), .ref (ad (103))]) := (hf8 (98) (by omega) (by omega) (by omega)).trans hO_at_227
                  rw [← hQ]
                  exact pw_vret hx hb hr hlocks hw (by
                    have hv9 : bvP P8 to (na + nb) = za.natAbs * zb.natAbs := by rw [hval8, hva]
                    rw [hv9] at hMg8 hB8
                    obtain ⟨h1, h2⟩ := fin_trim (z := za * zb) hMA hMA8 hMg8 hB8 ho8 (fun c9 h9 => by rw [eS9, pk_un h9]) (fun c9 h9 => by rw [eG9, pk_un h9]) hPo8 (Int.natAbs_mul _ _) (fun h9 => by rw [eG9, pk_us, ← zg_mul h9, if_neg (by omega)]; rfl)
                    exact ⟨h1, h2, fun y9 h3 h4 h5 => ((hf8 (y9) (by omega) (by omega) (by omega)).trans ((show F227 (y9) = F201 (y9) from by rw [eF227]; exact va_up_ne _ _ (by omega)).trans (show F201 (y9) = F48 (y9) from by rw [eF201]; exact va_up_ne _ _ (by omega)))).trans (hfr8 y9 h3)⟩) d_M_times_233
              · have hdA := hDa i (by omega)
                refine lv_lconst (v := iL 0) hx hb d_M_times_59 (by decide) ?_
                refine lv_lstore (lv' := [(6, .long (iL (0))), (0, .ref (ad (98))), (1, .int (iI ((to : Int)))), (2, .int (iI ((a : Int)))), (3, .int (iI ((b1 : Int)))), (4, .int (iI (((na + nb : Nat) : Int)))), (5, .int (iI ((i : Int))))]) hx hb d_M_times_60 hl (by decide) rfl (fun ls hl => ?_)
                refine wz_iconst (n := 0) hx hb d_M_times_62 ?_
                refine lv_istore (lv' := [(8, .int (iI (0))), (6, .long (iL (0))), (0, .ref (ad (98))), (1, .int (iI ((to : Int)))), (2, .int (iI ((a : Int)))), (3, .int (iI ((b1 : Int)))), (4, .int (iI (((na + nb : Nat) : Int)))), (5, .int (iI ((i : Int))))]) hx hb d_M_times_63 hl (by decide) rfl (fun ls hl => ?_)
                have K65 : ∀ (fuel : Nat) (j cy : Nat) (P9 : Nat → Int32) (F65 : Nat → va_E) (H : Heap) (locs : List Loc) (ls : Array Slot), nb - j < fuel → (j ≤ nb) → (cy ≤ 65535) → (bvP P9 to (i + j) + cy * 65536 ^ (i + j) = bvP P8 to (i + j) + dl P (300 * a + i) * 65536 ^ i * bvP P b1 j) → (Dg P9 to (i + nb)) → (∀ y, y < 300 * to + i ∨ 300 * to + (i + j) ≤ y → P9 y = P8 y) → (∀ y, y ≠ 99 → F65 y = F y) → F65 (98) = .inr (6, [.int (iI (co)), .ref (ad (99)), .ref (ad (100)), .ref (ad (101)), .ref (ad (102)), .int (iI (ln)), .int (iI (wr)), .ref (ad (103))]) → F65 (99) = .inl (ty 0, 12900, .inl (P9)) → F65 (100) = .inl (ty 0, 43, .inl (S)) → F65 (101) = .inl (ty 4, 43, .inl (G)) → pw D classes (tysL ty) ad M F65 (pA ad M s.heap.size) s H locs → lv_has ls 11 [(0, .ref (ad (98))), (1, .int (iI ((to : Int)))), (2, .int (iI ((a : Int)))), (3, .int (iI ((b1 : Int)))), (4, .int (iI (((na + nb : Nat) : Int)))), (5, .int (iI ((i : Int)))), (6, .long (iL ((cy : Int)))), (8, .int (iI ((j : Int))))] → W p l e ({ frames := 1, cells := 0, slots := 0, locals := 21 } : Room) s m ([.ref (ad (98)), .int (iI ((to : Int))), .int (iI ((a : Int))), .int (iI ((b1 : Int)))]).toArray below meth c H locs 0 0 Q (F0 m 65 ls []) := by
                  intro fuel
                  induction fuel with
                  | zero => intro j cy P9 F65 H locs ls hfuel hj hcy hval hDg hP89 hfr hO h99 h100 h101 hw hl; exact absurd hfuel (Nat.not_lt_zero _)
                  | succ fuel ih65 =>
                    intro j cy P9 F65 H locs ls hfuel hj hcy hval hDg hP89 hfr hO h99 h100 h101 hw hl
                    refine lv_iload hx hb d_M_times_65 (lv_at hl 7 rfl) ?_
                    refine lv_aload_n hx hb d_M_times_67 rfl (lv_at hl 0 rfl) ?_
                    refine pw_get (ci := 6) (C := R_M) (T := T_M) (N := 8) hx hb hq i_M hown hw (by omega) hO rfl 2 (by decide) (hq _ fl_M_13) (fun _ h9 => h9) rfl d_M_times_68 ?_
                    refine lv_iload_n hx hb d_M_times_71 rfl (lv_at hl 3 rfl) ?_
                    refine pw_iald (k := b1) hx hb hw 0 (by omega) h100 rfl (iI_in (by omega) (by omega) (by omega)) ((iI_cl (by omega) (by omega)).trans (by omega)) d_M_times_72 ?_
                    refine lv_topi (fun x72 ex72 => ?_)
                    obtain rfl : x72 = iI ((nb : Int)) := ex72.trans (hSb)
                    refine wz_icmp_ge (tgt := 165) hx hb d_M_times_73 (by decide) (by omega) (by omega) (by omega) (by omega) (fun c73 => ?_) (fun c73 => ?_)
                    · have hjn : nb = j := by omega
                      subst hjn
                      refine lv_aload_n hx hb d_M_times_165 rfl (lv_at hl 0 rfl) ?_
                      refine pw_get (ci := 6) (C := R_M) (T := T_M) (N := 8) hx hb hq i_M hown hw (by omega) hO rfl 1 (by decide) (hq _ fl_M_7) (fun _ h9 => h9) rfl d_M_times_166 ?_
                      refine wz_sipush (n := 300) hx hb d_M_times_169 (by decide) ?_
                      refine lv_iload_n hx hb d_M_times_172 rfl (lv_at hl 1 rfl) ?_
                      refine wz_imul hx hb d_M_times_173 rfl ?_
                      refine lv_iload hx hb d_M_times_174 (lv_at hl 5 rfl) ?_
                      refine wz_iadd hx hb d_M_times_176 rfl ?_
                      refine lv_aload_n hx hb d_M_times_177 rfl (lv_at hl 0 rfl) ?_
                      refine pw_get (ci := 6) (C := R_M) (T := T_M) (N := 8) hx hb hq i_M hown hw (by omega) hO rfl 2 (by decide) (hq _ fl_M_13) (fun _ h9 => h9) rfl d_M_times_178 ?_
                      refine lv_iload_n hx hb d_M_times_181 rfl (lv_at hl 3 rfl) ?_
                      refine pw_iald (k := b1) hx hb hw 0 (by omega) h100 rfl (iI_in (by omega) (by omega) (by omega)) ((iI_cl (by omega) (by omega)).trans (by omega)) d_M_times_182 ?_
                      refine lv_topi (fun x182 ex182 => ?_)
                      obtain rfl : x182 = iI ((nb : Int)) := ex182.trans (hSb)
                      refine wz_iadd hx hb d_M_times_183 rfl ?_
                      refine lv_lload hx hb d_M_times_184 (lv_at hl 6 rfl) ?_
                      refine wz_l2i hx hb d_M_times_186 ?_
                      refine pw_iast (k := 300 * to + (i + nb)) hx hb hw 0 (by omega) h99 rfl (iI_in (by omega) (by omega) (by omega)) ((iI_cl (by omega) (by omega)).trans (by omega)) d_M_times_187 (fun F187 H locs eF187 hw => ?_)
                      have m187_99 : F187 (99) = .inl (ty 0, 12900, .inl (upd P9 (300 * to + (i + nb)) (iI ((cy : Int))))) := by rw [eF187]; exact va_up_self ..
                      have hO_at_187 : F187 (98) = .inr (6, [.int (iI (co)), .ref (ad (99)), .ref (ad (100)), .ref (ad (101)), .ref (ad (102)), .int (iI (ln)), .int (iI (wr)), .ref (ad (103))]) := (show F187 (98) = F65 (98) from by rw [eF187]; exact va_up_ne _ _ (by omega)).trans hO
                      have h100_at_187 : F187 (100) = .inl (ty 0, 43, .inl (S)) := (show F187 (100) = F65 (100) from by rw [eF187]; exact va_up_ne _ _ (by omega)).trans h100
                      have h101_at_187 : F187 (101) = .inl (ty 4, 43, .inl (G)) := (show F187 (101) = F65 (101) from by rw [eF187]; exact va_up_ne _ _ (by omega)).trans h101
                      refine wz_iinc (z := ((i + 1 : Nat) : Int)) (lv' := [(5, .int (iI (((i + 1 : Nat) : Int)))), (0, .ref (ad (98))), (1, .int (iI ((to : Int)))), (2, .int (iI ((a : Int)))), (3, .int (iI ((b1 : Int)))), (4, .int (iI (((na + nb : Nat) : Int)))), (6, .long (iL ((cy : Int)))), (8, .int (iI ((nb : Int))))]) hx hb d_M_times_188 hl (k := 5) rfl (by omega) (by decide) rfl (fun ls hl => ?_)
                      refine lv_goto (tgt := 48) hx hb d_M_times_191 (by decide) ?_
                      exact ih48 (i + 1) (upd P9 (300 * to + (i + nb)) (iI ((cy : Nat) : Int))) _ _ _ ls (by omega) (by omega) (by
                        rw [show i + 1 + nb = (i + nb) + 1 by omega, bvP_s, bvP_up (Nat.le_refl _), dig_up (by omega), hval, hval8, hvb, bvP_s, Nat.add_mul]) (by rw [show i + 1 + nb = (i + nb) + 1 by omega]; exact Dg_up hDg (by omega)) (fun j hj => by rw [pk_un (by omega), hP89 j (by omega)]; exact hPo8 j hj) (fun y9 h9 => (show F187 (y9) = F65 (y9) from by rw [eF187]; exact va_up_ne _ _ (by omega)).trans (hfr y9 h9)) hO_at_187 m187_99 h100_at_187 h101_at_187 hw (lv_sub hl [1, 2, 3, 4, 5, 0] rfl)
                    · have hdB := hDb j (by omega)
                      have hd9 := hDg8 (i + j) (by omega)
                      obtain ⟨w0, hw0⟩ : ∃ w0, w0 = dl P (300 * a + i) * dl P (300 * b1 + j) + dl P8 (300 * to + (i + j)) + cy := ⟨_, rfl⟩
                      have hm9 : dl P (300 * a + i) * dl P (300 * b1 + j) ≤ 65535 * 65535 := Nat.mul_le_mul (by omega) (by omega)
                      refine lv_aload_n hx hb d_M_times_76 rfl (lv_at hl 0 rfl) ?_
                      refine pw_get (ci := 6) (C := R_M) (T := T_M) (N := 8) hx hb hq i_M hown hw (by omega) hO rfl 1 (by decide) (hq _ fl_M_7) (fun _ h9 => h9) rfl d_M_times_77 ?_
                      refine wz_sipush (n := 300) hx hb d_M_times_80 (by decide) ?_
                      refine lv_iload_n hx hb d_M_times_83 rfl (lv_at hl 2 rfl) ?_
                      refine wz_imul hx hb d_M_times_84 rfl ?_
                      refine lv_iload hx hb d_M_times_85 (lv_at hl 5 rfl) ?_
                      refine wz_iadd hx hb d_M_times_87 rfl ?_
                      refine pw_iald (k := 300 * a + i) hx hb hw 0 (by omega) h99 rfl (iI_in (by omega) (by omega) (by omega)) ((iI_cl (by omega) (by omega)).trans (by omega)) d_M_times_88 ?_
                      refine lv_topi (fun x88 ex88 => ?_)
                      obtain rfl : x88 = iI ((dl P (300 * a + i) : Int)) := ex88.trans ((hP89 _ (by omega)).trans ((hPo8 _ (by omega)).trans (hDa.get (by omega))))
                      refine wz_i2l hx hb d_M_times_89 (by omega) (by omega) ?_
                      refine lv_aload_n hx hb d_M_times_90 rfl (lv_at hl 0 rfl) ?_
                      refine pw_get (ci := 6) (C := R_M) (T := T_M) (N := 8) hx hb hq i_M hown hw (by omega) hO rfl 1 (by decide) (hq _ fl_M_7) (fun _ h9 => h9) rfl d_M_times_91 ?_
                      refine wz_sipush (n := 300) hx hb d_M_times_94 (by decide) ?_
                      refine lv_iload_n hx hb d_M_times_97 rfl (lv_at hl 3 rfl) ?_
                      refine wz_imul hx hb d_M_times_98 rfl ?_
                      refine lv_iload hx hb d_M_times_99 (lv_at hl 7 rfl) ?_
                      refine wz_iadd hx hb d_M_times_101 rfl ?_
                      refine pw_iald (k := 300 * b1 + j) hx hb hw 0 (by omega) h99 rfl (iI_in (by omega) (by omega) (by omega)) ((iI_cl (by omega) (by omega)).trans (by omega)) d_M_times_102 ?_
                      refine lv_topi (fun x102 ex102 => ?_)
                      obtain rfl : x102 = iI ((dl P (300 * b1 + j) : Int)) := ex102.trans ((hP89 _ (by omega)).trans ((hPo8 _ (by omega)).trans (hDb.get (by omega))))
                      refine wz_i2l hx hb d_M_times_103 (by omega) (by omega) ?_
                      refine wz_lmul (z := ((dl P (300 * a + i) * dl P (300 * b1 + j) : Nat) : Int)) hx hb d_M_times_104 (by rw [Int.natCast_mul]) ?_
                      refine lv_aload_n hx hb d_M_times_105 rfl (lv_at hl 0 rfl) ?_
                      refine pw_get (ci := 6) (C := R_M) (T := T_M) (N := 8) hx hb hq i_M hown hw (by omega) hO rfl 1 (by decide) (hq _ fl_M_7) (fun _ h9 => h9) rfl d_M_times_106 ?_
                      refine wz_sipush (n := 300) hx hb d_M_times_109 (by decide) ?_
                      refine lv_iload_n hx hb d_M_times_112 rfl (lv_at hl 1 rfl) ?_
                      refine wz_imul hx hb d_M_times_113 rfl ?_
                      refine lv_iload hx hb d_M_times_114 (lv_at hl 5 rfl) ?_
                      refine wz_iadd hx hb d_M_times_116 rfl ?_
                      refine lv_iload hx hb d_M_times_117 (lv_at hl 7 rfl) ?_
                      refine wz_iadd hx hb d_M_times_119 rfl ?_
                      refine pw_iald (k := 300 * to + (i + j)) hx hb hw 0 (by omega) h99 rfl (iI_in (by omega) (by omega) (by omega)) ((iI_cl (by omega) (by omega)).trans (by omega)) d_M_times_120 ?_
                      refine lv_topi (fun x120 ex120 => ?_)
                      obtain rfl : x120 = iI ((dl P8 (300 * to + (i + j)) : Int)) := ex120.trans ((hP89 _ (by omega)).trans (hDg8.get (by omega)))
                      refine wz_i2l hx hb d_M_times_121 (by omega) (by omega) ?_
                      refine wz_ladd hx hb d_M_times_122 rfl ?_
                      refine lv_lload hx hb d_M_times_123 (lv_at hl 6 rfl) ?_
                      refine wz_ladd (z := (w0 : Int)) hx hb d_M_times_125 (by omega) ?_
                      refine lv_lstore (lv' := [(9, .long (iL ((w0 : Int)))), (0, .ref (ad (98))), (1, .int (iI ((to : Int)))), (2, .int (iI ((a : Int)))), (3, .int (iI ((b1 : Int)))), (4, .int (iI (((na + nb : Nat) : Int)))), (5, .int (iI ((i : Int)))), (6, .long (iL ((cy : Int)))), (8, .int (iI ((j : Int))))]) hx hb d_M_times_126 hl (by decide) rfl (fun ls hl => ?_)
                      refine lv_aload_n hx hb d_M_times_128 rfl (lv_at hl 1 rfl) ?_
                      refine pw_get (ci := 6) (C := R_M) (T := T_M) (N := 8) hx hb hq i_M hown hw (by omega) hO rfl 1 (by decide) (hq _ fl_M_7) (fun _ h9 => h9) rfl d_M_times_129 ?_
                      refine wz_sipush (n := 300) hx hb d_M_times_132 (by decide) ?_
                      refine lv_iload_n hx hb d_M_times_135 rfl (lv_at hl 2 rfl) ?_
                      refine wz_imul hx hb d_M_times_136 rfl ?_
                      refine lv_iload hx hb d_M_times_137 (lv_at hl 6 rfl) ?_
                      refine wz_iadd hx hb d_M_times_139 rfl ?_
                      refine lv_iload hx hb d_M_times_140 (lv_at hl 8 rfl) ?_
                      refine wz_iadd hx hb d_M_times_142 rfl ?_
                      refine lv_lload hx hb d_M_times_143 (lv_at hl 0 rfl) ?_
                      refine lv_ldc2 (v := iL (65536)) hx hb hown (hq _ cj_M_37) d_M_times_145 ?_
                      refine wz_lrem (a := w0) (b := 65536) (z := w0 % 65536) hx hb d_M_times_148 (by omega) (by omega) (by omega) (rfl) ?_
                      refine wz_l2i hx hb d_M_times_149 ?_
                      refine pw_iast (k := 300 * to + (i + j)) hx hb hw 0 (by omega) h99 rfl (iI_in (by omega) (by omega) (by omega)) ((iI_cl (by omega) (by omega)).trans (by omega)) d_M_times_150 (fun F150 H locs eF150 hw => ?_)
                      have m150_99 : F150 (99) = .inl (ty 0, 12900, .inl (upd P9 (300 * to + (i + j)) (iI (((w0 % 65536 : Nat) : Int))))) := by rw [eF150]; exact va_up_self ..
                      have hO_at_150 : F150 (98) = .inr (6, [.int (iI (co)), .ref (ad (99)), .ref (ad (100)), .ref (ad (101)), .ref (ad (102)), .int (iI (ln)), .int (iI (wr)), .ref (ad (103))]) := (show F150 (98) = F65 (98) from by rw [eF150]; exact va_up_ne _ _ (by omega)).trans hO
                      have h100_at_150 : F150 (100) = .inl (ty 0, 43, .inl (S)) := (show F150 (100) = F65 (100) from by rw [eF150]; exact va_up_ne _ _ (by omega)).trans h100
                      have h101_at_150 : F150 (101) = .inl (ty 4, 43, .inl (G)) := (show F150 (101) = F65 (101) from by rw [eF150]; exact va_up_ne _ _ (by omega)).trans h101
                      refine lv_lload hx hb d_M_times_151 (lv_at hl 0 rfl) ?_
                      refine lv_ldc2 (v := iL (65536)) hx hb hown (hq _ cj_M_37) d_M_times_153 ?_
                      refine wz_ldiv (a := w0) (b := 65536) (z := w0 / 65536) hx hb d_M_times_156 (by omega) (by omega) (by omega) (rfl) ?_
                      refine lv_lstore (lv' := [(6, .long (iL (((w0 / 65536 : Nat) : Int)))), (9, .long (iL ((w0 : Int)))), (0, .ref (ad (98))), (1, .int (iI ((to : Int)))), (2, .int (iI ((a : Int)))), (3, .int (iI ((b1 : Int)))), (4, .int (iI (((na + nb : Nat) : Int)))), (5, .int (iI ((i : Int)))), (8, .int (iI ((j : Int))))]) hx hb d_M_times_157 hl (by decide) rfl (fun ls hl => ?_)
                      refine wz_iinc (z := ((j + 1 : Nat) : Int)) (lv' := [(8, .int (iI (((j + 1 : Nat) : Int)))), (6, .long (iL (((w0 / 65536 : Nat) : Int)))), (9, .long (iL ((w0 : Int)))), (0, .ref (ad (98))), (1, .int (iI ((to : Int)))), (2, .int (iI ((a : Int)))), (3, .int (iI ((b1 : Int)))), (4, .int (iI (((na + nb : Nat) : Int)))), (5, .int (iI ((i : Int))))]) hx hb d_M_times_159 hl (k := 8) rfl (by omega) (by decide) rfl (fun ls hl => ?_)
                      refine lv_goto (tgt := 65) hx hb d_M_times_162 (by decide) ?_
                      exact ih65 (j + 1) (w0 / 65536) (upd P9 (300 * to + (i + j)) (iI ((w0 % 65536 : Nat) : Int))) _ _ _ ls (by omega) (by omega) (by omega) (by
                        rw [show i + (j + 1) = (i + j) + 1 by omega, bvP_s, bvP_up (Nat.le_refl _), dig_up (by omega), bvP_s P8, bvP_s P b1, Nat.pow_succ]; exact tm_step (Nat.pow_add _ _ _) hval hw0) (Dg_set hDg (by omega)) (fun y9 h9 => by rw [pk_un (by omega)]; exact hP89 y9 (by omega)) (fun y9 h9 => (show F150 (y9) = F65 (y9) from by rw [eF150]; exact va_up_ne _ _ (by omega)).trans (hfr y9 h9)) hO_at_150 m150_99 h100_at_150 h101_at_150 hw (lv_sub hl [3, 4, 5, 6, 7, 8, 1, 0] rfl)
                exact K65 _ 0 0 P8 _ _ _ ls (Nat.lt_succ_self _) (by omega) (by omega) (by simp [bvP_0]) (hDg8) (fun j hj => rfl) (hfr8) hO h99 h100 h101 hw (lv_sub hl [2, 3, 4, 5, 6, 7, 1, 0] rfl)
          exact K48 _ 0 P9 _ _ _ ls (Nat.lt_succ_self _) (by omega) (by rw [Nat.zero_add, bvP_zero (fun i hi => hz i (by omega)), bvP_0, Nat.zero_mul]) (fun i hi => by rw [dl_of (n := 0) (by decide) (hz i (by omega))]; decide) (hPo) (hfr) hO h99 h100 h101 hw (lv_sub hl [1, 2, 3, 4, 5, 0] rfl)
        · refine lv_aload_n hx hb d_M_times_25 rfl (lv_at hl 0 rfl) ?_
          refine pw_get (ci := 6) (C := R_M) (T := T_M) (N := 8) hx hb hq i_M hown hw (by omega) hO rfl 1 (by decide) (hq _ fl_M_7) (fun _ h9 => h9) rfl d_M_times_26 ?_
          refine wz_sipush (n := 300) hx hb d_M_times_29 (by decide) ?_
          refine lv_iload_n hx hb d_M_times_32 rfl (lv_at hl 1 rfl) ?_
          refine wz_imul hx hb d_M_times_33 rfl ?_
          refine lv_iload hx hb d_M_times_34 (lv_at hl 5 rfl) ?_
          refine wz_iadd hx hb d_M_times_36 rfl ?_
          refine wz_iconst (n := 0) hx hb d_M_times_37 ?_
          refine pw_iast (k := 300 * to + k) hx hb hw 0 (by omega) h99 rfl (iI_in (by omega) (by omega) (by omega)) ((iI_cl (by omega) (by omega)).trans (by omega)) d_M_times_38 (fun F38 H locs eF38 hw => ?_)
          have m38_99 : F38 (99) = .inl (ty 0, 12900, .inl (upd P9 (300 * to + k) (iI (0)))) := by rw [eF38]; exact va_up_self ..
          have hO_at_38 : F38 (98) = .inr (6, [.int (iI (co)), .ref (ad (99)), .ref (ad (100)), .ref (ad (101)), .ref (ad (102)), .int (iI (ln)), .int (iI (wr)), .ref (ad (103))]) := (show F38 (98) = F18 (98) from by rw [eF38]; exact va_up_ne _ _ (by omega)).trans hO
          have h100_at_38 : F38 (100) = .inl (ty 0, 43, .inl (S)) := (show F38 (100) = F18 (100) from by rw [eF38]; exact va_up_ne _ _ (by omega)).trans h100
          have h101_at_38 : F38 (101) = .inl (ty 4, 43, .inl (G)) := (show F38 (101) = F18 (101) from by rw [eF38]; exact va_up_ne _ _ (by omega)).trans h101
          refine wz_iinc (z := ((k + 1 : Nat) : Int)) (lv' := [(5, .int (iI (((k + 1 : Nat) : Int)))), (0, .ref (ad (98))), (1, .int (iI ((to : Int)))), (2, .int (iI ((a : Int)))), (3, .int (iI ((b1 : Int)))), (4, .int (iI (((na + nb : Nat) : Int))))]) hx hb d_M_times_39 hl (k := 5) rfl (by omega) (by decide) rfl (fun ls hl => ?_)
          refine lv_goto (tgt := 18) hx hb d_M_times_42 (by decide) ?_
          exact ih18 (k + 1) (upd P9 (300 * to + k) (iI 0)) _ _ _ ls (by omega) (by omega) (fun i hi => by
            by_cases h9 : i = k
            · rw [h9, pk_us]
            · rw [pk_un (by omega)]; exact hz i (by omega)) (fun j hj => by rw [pk_un (by omega)]; exact hPo j hj) (fun y9 h9 => (show F38 (y9) = F18 (y9) from by rw [eF38]; exact va_up_ne _ _ (by omega)).trans (hfr y9 h9)) hO_at_38 m38_99 h100_at_38 h101_at_38 hw (lv_sub hl [1, 2, 3, 4, 5, 0] rfl)
    exact K18 _ 0 P _ _ _ ls (Nat.lt_succ_self _) (by omega) (fun i hi => absurd hi (by omega)) (fun j hj => rfl) (fun y9 h9 => rfl) hO h99 h100 h101 hw (lv_sub hl [2, 3, 4, 5, 1, 0] rfl)
  rw [hH, hlo] at hgo
  exact hgo
set_option maxHeartbeats 4000000 in
set_option maxRecDepth 100000 in
/-- scale(to, a, by) -/
theorem c_M_scale (l : Launch) (D : va_G) (ty : Nat → ClassId) (ad : Nat → Nat) (M : Nat) (F : Nat → va_E) (sz : Nat) (hM : 103 < M) (co ln wr : Int) (hO : F 98 = oM ad co ln wr) (P S G : Nat → Int32) (hMA : MA ty F P S G) (to a n d0 va : Nat) (hto : to < 43) (ha : a < 43) (hne : to ≠ a) (hSa : S a = iI n) (hn : n < 299) (hDa : Dg P a n) (hva : bvP P a n = va) (hd0 : 1 ≤ d0 ∧ d0 < 65536) :
    CV l y_M_scale w_M_scale ({ frames := 1, cells := 0, slots := 0, locals := 21 } : Room) [.ref (ad (98)), .int (iI ((to : Int))), .int (iI ((a : Int))), .int (iI ((d0 : Int)))] D ty ad M F sz (fun F1 => ∃ P' S' B', MA ty F1 P' S' B' ∧ Mg P' S' to (va * d0) ∧ (∀ c, c ≠ to → S' c = S c ∧ B' c = G c) ∧ (∀ j, j < 300 * to ∨ 300 * to + 300 ≤ j → P' j = P j) ∧ frM F F1) := by
  refine Met.ofW (cc := b_M_scale) (maxL := 10) (ret := none) (by decide) rfl ?_
  intro p e s m args below meth c s₁ B hml hv
  obtain ⟨rfl, hsz, hP, hK, hD0⟩ := hv
  have hx := B.exec
  have hb := B.bytes
  have hr := B.returns
  have hts := atoms_spec (ws := w_M_scale) B.pre
  have hq : ∀ w ∈ wT, w.before _ s = true := fun w h => hts w (List.mem_cons_of_mem _ h)
  have hown : s.vm.findClass R_M = some m.cls := findClass_of_methodNamed B.named
  have hlocks := B.notSynchronized
  subst hsz
  have hw := pw_start hP hK hD0
  have hl := lv_entry ([.ref (ad (98)), .int (iI ((to : Int))), .int (iI ((a : Int))), .int (iI ((d0 : Int)))]) (n := 10) (Nat.le_of_ble_eq_true rfl)
  rw [lg_entry_eq]
  generalize (lg_sl ([.ref (ad (98)), .int (iI ((to : Int))), .int (iI ((a : Int))), .int (iI ((d0 : Int)))]) ++ List.replicate (10 - (lg_sl ([.ref (ad (98)), .int (iI ((to : Int))), .int (iI ((a : Int))), .int (iI ((d0 : Int)))])).length) Slot.unset).toArray = ls at hl ⊢
  have hl : lv_has ls 10 [(0, .ref (ad (98))), (1, .int (iI ((to : Int)))), (2, .int (iI ((a : Int)))), (3, .int (iI ((d0 : Int))))] := hl
  change W p l e ({ frames := 1, cells := 0, slots := 0, locals := 21 } : Room) s m ([.ref (ad (98)), .int (iI ((to : Int))), .int (iI ((a : Int))), .int (iI ((d0 : Int)))]).toArray below meth c s.heap [] 0 0 (MQ below (va_Qv (fun F1 => ∃ P' S' B', MA ty F1 P' S' B' ∧ Mg P' S' to (va * d0) ∧ (∀ c, c ≠ to → S' c = S c ∧ B' c = G c) ∧ (∀ j, j < 300 * to ∨ 300 * to + 300 ≤ j → P' j = P j) ∧ frM F F1) (pAt D classes (tysL ty) ad M (pA ad M s.heap.size)) (pA ad M s.heap.size)) ([.ref (ad (98)), .int (iI ((to : Int))), .int (iI ((a : Int))), .int (iI ((d0 : Int)))]).toArray s 0 0 (pA ad M s.heap.size)) (F0 m 0 ls [])
  generalize hQ : MQ below (va_Qv (fun F1 => ∃ P' S' B', MA ty F1 P' S' B' ∧ Mg P' S' to (va * d0) ∧ (∀ c, c ≠ to → S' c = S c ∧ B' c = G c) ∧ (∀ j, j < 300 * to ∨ 300 * to + 300 ≤ j → P' j = P j) ∧ frM F F1) (pAt D classes (tysL ty) ad M (pA ad M s.heap.size)) (pA ad M s.heap.size)) ([.ref (ad (98)), .int (iI ((to : Int))), .int (iI ((a : Int))), .int (iI ((d0 : Int)))]).toArray s 0 0 (pA ad M s.heap.size) = Q
  obtain ⟨H, hH⟩ : ∃ H, H = s.heap := ⟨_, rfl⟩
  obtain ⟨locs, hlo⟩ : ∃ z : List Loc, z = [] := ⟨_, rfl⟩
  have hw : pw D classes (tysL ty) ad M F (pA ad M s.heap.size) s H locs := by rw [hH, hlo]; exact hw
  have hgo : W p l e ({ frames := 1, cells := 0, slots := 0, locals := 21 } : Room) s m ([.ref (ad (98)), .int (iI ((to : Int))), .int (iI ((a : Int))), .int (iI ((d0 : Int)))]).toArray below meth c H locs 0 0 Q (F0 m 0 ls []) := by
    obtain ⟨h99, h100, h101⟩ := id hMA
    refine lv_lconst (v := iL 0) hx hb d_M_scale_0 (by decide) ?_
    refine lv_lstore (lv' := [(4, .long (iL (0))), (0, .ref (ad (98))), (1, .int (iI ((to : Int)))), (2, .int (iI ((a : Int)))), (3, .int (iI ((d0 : Int))))]) hx hb d_M_scale_1 hl (by decide) rfl (fun ls hl => ?_)
    refine lv_aload_n hx hb d_M_scale_3 rfl (lv_at hl 1 rfl) ?_
    refine pw_get (ci := 6) (C := R_M) (T := T_M) (N := 8) hx hb hq i_M hown hw (by omega) hO rfl 2 (by decide) (hq _ fl_M_13) (fun _ h9 => h9) rfl d_M_scale_4 ?_
    refine lv_iload_n hx hb d_M_scale_7 rfl (lv_at hl 3 rfl) ?_
    refine pw_iald (k := a) hx hb hw 0 (by omega) h100 rfl (iI_in (by omega) (by omega) (by omega)) ((iI_cl (by omega) (by omega)).trans (by omega)) d_M_scale_8 ?_
    refine lv_topi (fun x8 ex8 => ?_)
    obtain rfl : x8 = iI ((n : Int)) := ex8.trans (hSa)
    refine lv_istore (lv' := [(6, .int (iI ((n : Int)))), (4, .long (iL (0))), (0, .ref (ad (98))), (1, .int (iI ((to : Int)))), (2, .int (iI ((a : Int)))), (3, .int (iI ((d0 : Int))))]) hx hb d_M_scale_9 hl (by decide) rfl (fun ls hl => ?_)
    refine wz_iconst (n := 0) hx hb d_M_scale_11 ?_
    refine lv_istore (lv' := [(7, .int (iI (0))), (6, .int (iI ((n : Int)))), (4, .long (iL (0))), (0, .ref (ad (98))), (1, .int (iI ((to : Int)))), (2, .int (iI ((a : Int)))), (3, .int (iI ((d0 : Int))))]) hx hb d_M_scale_12 hl (by decide) rfl (fun ls hl => ?_)
    have K14 : ∀ (fuel : Nat) (k cy : Nat) (P9 : Nat → Int32) (F14 : Nat → va_E) (H : Heap) (locs : List Loc) (ls : Array Slot), n - k < fuel → (k ≤ n) → (cy ≤ 65535) → (bvP P9 to k + cy * 65536 ^ k = bvP P a k * d0) → (Dg P9 to k) → (∀ j, j < 300 * to ∨ 300 * to + 300 ≤ j → P9 j = P j) → (∀ y, y ≠ 99 → F14 y = F y) → F14 (98) = .inr (6, [.int (iI (co)), .ref (ad (99)), .ref (ad (100)), .ref (ad (101)), .ref (ad (102)), .int (iI (ln)), .int (iI (wr)), .ref (ad (103))]) → F14 (99) = .inl (ty 0, 12900, .inl (P9)) → F14 (100) = .inl (ty 0, 43, .inl (S)) → F14 (101) = .inl (ty 4, 43, .inl (G)) → pw D classes (tysL ty) ad M F14 (pA ad M s.heap.size) s H locs → lv_has ls 10 [(0, .ref (ad (98))), (1, .int (iI ((to : Int)))), (2, .int (iI ((a : Int)))), (3, .int (iI ((d0 : Int)))), (4, .long (iL ((cy : Int)))), (6, .int (iI ((n : Int)))), (7, .int (iI ((k : Int))))] → W p l e ({ frames := 1, cells := 0, slots := 0, locals := 21 } : Room) s m ([.ref (ad (98)), .int (iI ((to : Int))), .int (iI ((a : Int))), .int (iI ((d0 : Int)))]).toArray below meth c H locs 0 0 Q (F0 m 14 ls []) := by
      intro fuel
      induction fuel with
      | zero => intro k cy P9 F14 H locs ls hfuel hk hcy hval hDg hPo hfr hO h99 h100 h101 hw hl; exact absurd hfuel (Nat.not_lt_zero _)
      | succ fuel ih14 =>
        intro k cy P9 F14 H locs ls hfuel hk hcy hval hDg hPo hfr hO h99 h100 h101 hw hl
        refine lv_iload hx hb d_M_scale_14 (lv_at hl 6 rfl) ?_
        refine lv_iload hx hb d_M_scale_16 (lv_at hl 5 rfl) ?_
        refine wz_icmp_ge (tgt := 77) hx hb d_M_scale_18 (by decide) (by omega) (by omega) (by omega) (by omega) (fun c18 => ?_) (fun c18 => ?_)
        · have hkn : k = n := by omega
          subst hkn
          refine lv_aload_n hx hb d_M_scale_77 rfl (lv_at hl 0 rfl) ?_
          refine pw_get (ci := 6) (C := R_M) (T := T_M) (N := 8) hx hb hq i_M hown hw (by omega) hO rfl 1 (by decide) (hq _ fl_M_7) (fun _ h9 => h9) rfl d_M_scale_78 ?_
          refine wz_sipush (n := 300) hx hb d_M_scale_81 (by decide) ?_
          refine lv_iload_n hx hb d_M_scale_84 rfl (lv_at hl 1 rfl) ?_
          refine wz_imul hx hb d_M_scale_85 rfl ?_
          refine lv_iload hx hb d_M_scale_86 (lv_at hl 5 rfl) ?_
          refine wz_iadd hx hb d_M_scale_88 rfl ?_
          refine lv_lload hx hb d_M_scale_89 (lv_at hl 4 rfl) ?_
          refine wz_l2i hx hb d_M_scale_91 ?_
          refine pw_iast (k := 300 * to + k) hx hb hw 0 (by omega) h99 rfl (iI_in (by omega) (by omega) (by omega)) ((iI_cl (by omega) (by omega)).trans (by omega)) d_M_scale_92 (fun F92 H locs eF92 hw => ?_)
          obtain ⟨P8, eP8⟩ : ∃ z9, z9 = upd P9 (300 * to + k) (iI ((cy : Int))) := ⟨_, rfl⟩
          rw [← eP8] at eF92
          have m92_99 : F92 (99) = .inl (ty 0, 12900, .inl (P8)) := by rw [eF92]; exact va_up_self ..
          have hO_at_92 : F92 (98) = .inr (6, [.int (iI (co)), .ref (ad (99)), .ref (ad (100)), .ref (ad (101)), .ref (ad (102)), .int (iI (ln)), .int (iI (wr)), .ref (ad (103))]) := (show F92 (98) = F14 (98) from by rw [eF92]; exact va_up_ne _ _ (by omega)).trans hO
          have h100_at_92 : F92 (100) = .inl (ty 0, 43, .inl (S)) := (show F92 (100) = F14 (100) from by rw [eF92]; exact va_up_ne _ _ (by omega)).trans h100
          have h101_at_92 : F92 (101) = .inl (ty 4, 43, .inl (G)) := (show F92 (101) = F14 (101) from by rw [eF92]; exact va_up_ne _ _ (by omega)).trans h101
          refine lv_aload_n hx hb d_M_scale_93 rfl (lv_at hl 0 rfl) ?_
          refine pw_get (ci := 6) (C := R_M) (T := T_M) (N := 8) hx hb hq i_M hown hw (by omega) hO_at_92 rfl 2 (by decide) (hq _ fl_M_13) (fun _ h9 => h9) rfl d_M_scale_94 ?_
          refine lv_iload_n hx hb d_M_scale_97 rfl (lv_at hl 1 rfl) ?_
          refine lv_iload hx hb d_M_scale_98 (lv_at hl 5 rfl) ?_
          refine wz_iconst (n := 1) hx hb d_M_scale_100 ?_
          refine wz_iadd (z := ((k + 1 : Nat) : Int)) hx hb d_M_scale_101 (by omega) ?_
          refine pw_iast (k := to) hx hb hw 0 (by omega) h100_at_92 rfl (iI_in (by omega) (by omega) (by omega)) ((iI_cl (by omega) (by omega)).trans (by omega)) d_M_scale_102 (fun F102 H locs eF102 hw => ?_)
          obtain ⟨S9, eS9⟩ : ∃ z9, z9 = upd S (to) (iI (((k + 1 : Nat) : Int))) := ⟨_, rfl⟩
          rw [← eS9] at eF102
          have m102_100 : F102 (100) = .inl (ty 0, 43, .inl (S9)) := by rw [eF102]; exact va_up_self ..
          have hO_at_102 : F102 (98) = .inr (6, [.int (iI (co)), .ref (ad (99)), .ref (ad (100)), .ref (ad (101)), .ref (ad (102)), .int (iI (ln)), .int (iI (wr)), .ref (ad (103))]) := (show F102 (98) = F92 (98) from by rw [eF102]; exact va_up_ne _ _ (by omega)).trans hO_at_92
          have h101_at_102 : F102 (101) = .inl (ty 4, 43, .inl (G)) := (show F102 (101) = F92 (101) from by rw [eF102]; exact va_up_ne _ _ (by omega)).trans h101_at_92
          have m92_99_at_102 : F102 (99) = .inl (ty 0, 12900, .inl (P8)) := (show F102 (99) = F92 (99) from by rw [eF102]; exact va_up_ne _ _ (by omega)).trans m92_99
          refine lv_aload_n hx hb d_M_scale_103 rfl (lv_at hl 0 rfl) ?_
          refine lv_iload_n hx hb d_M_scale_104 rfl (lv_at hl 1 rfl) ?_
          refine pw_callv hw (va_runV (As := [.int (iI ((to : Int)))]) (rest := []) ⟨hx, hb, hml, hown, hq⟩ (c_M_trim l D ty ad M F102 H.size hM co ln wr hO_at_102 P8 S9 G ⟨m92_99_at_102, m102_100, h101_at_102⟩ to (k + 1) hto (by rw [eS9, pk_us]) (by omega) (by rw [eP8]; exact Dg_up hDg (by omega))) (cwV 1 hq (gV ml_M_39 im_M_trim se_M_trim in_M m_M_trim) rfl rfl rfl (by decide +kernel) ⟨Nat.le_of_ble_eq_true rfl, Nat.le_of_ble_eq_true rfl⟩) (pw_preV hw (by omega) hO_at_102 rfl) rfl rfl hl.1 rfl (lv_room (Nat.le_of_ble_eq_true rfl)) d_M_scale_105 ⟨Nat.le_of_ble_eq_true rfl, Nat.le_of_ble_eq_true rfl⟩) (fun F105 H locs q105 hw => ?_)
          obtain ⟨S8, B8, hMA8, hMg8, hB8, ho8, hf8⟩ := q105
          have hO_at_105 : F105 (98) = .inr (6, [.int (iI (co)), .ref (ad (99)), .ref (ad (100)), .ref (ad (101)), .ref (ad (102)), .int (iI (ln)), .int (iI (wr)), .ref (ad (103))]) := (hf8 (98) (by omega) (by omega) (by omega)).trans hO_at_102
          rw [← hQ]
          exact pw_vret hx hb hr hlocks hw (by
            have hv9 : bvP P8 to (k + 1) = va * d0 := by rw [eP8, bvP_s, bvP_up (Nat.le_refl _), dig_up (by omega), hval, hva]
            rw [hv9] at hMg8
            exact ⟨P8, S8, B8, hMA8, hMg8, fun c9 h9 => ⟨(ho8 c9 h9).1.trans (by rw [eS9, pk_un h9]), (ho8 c9 h9).2⟩, fun j hj => by rw [eP8, pk_un (by omega)]; exact hPo j hj, fun y9 h3 h4 h5 => ((hf8 (y9) (by omega) (by omega) (by omega)).trans ((show F102 (y9) = F92 (y9) from by rw [eF102]; exact va_up_ne _ _ (by omega)).trans (show F92 (y9) = F14 (y9) from by rw [eF92]; exact va_up_ne _ _ (by omega)))).trans (hfr y9 h3)⟩) d_M_scale_108
        · have hdA := hDa k (by omega)
          obtain ⟨w0, hw0⟩ : ∃ w0, w0 = dl P (300 * a + k) * d0 + cy := ⟨_, rfl⟩
          have hm9 : dl P (300 * a + k) * d0 ≤ 65535 * 65535 := Nat.mul_le_mul (by omega) (by omega)
          refine lv_aload_n hx hb d_M_scale_21 rfl (lv_at hl 0 rfl) ?_
          refine pw_get (ci := 6) (C := R_M) (T := T_M) (N := 8) hx hb hq i_M hown hw (by omega) hO rfl 1 (by decide) (hq _ fl_M_7) (fun _ h9 => h9) rfl d_M_scale_22 ?_
          refine wz_sipush (n := 300) hx hb d_M_scale_25 (by decide) ?_
          refine lv_iload_n hx hb d_M_scale_28 rfl (lv_at hl 2 rfl) ?_
          refine wz_imul hx hb d_M_scale_29 rfl ?_
          refine lv_iload hx hb d_M_scale_30 (lv_at hl 6 rfl) ?_
          refine wz_iadd hx hb d_M_scale_32 rfl ?_
          refine pw_iald (k := 300 * a + k) hx hb hw 0 (by omega) h99 rfl (iI_in (by omega) (by omega) (by omega)) ((iI_cl (by omega) (by omega)).trans (by omega)) d_M_scale_33 ?_
          refine lv_topi (fun x33 ex33 => ?_)
          obtain rfl : x33 = iI ((dl P (300 * a + k) : Int)) := ex33.trans ((hPo _ (by omega)).trans (hDa.get (by omega)))
          refine wz_i2l hx hb d_M_scale_34 (by omega) (by omega) ?_
          refine lv_iload_n hx hb d_M_scale_35 rfl (lv_at hl 3 rfl) ?_
          refine wz_i2l hx hb d_M_scale_36 (by omega) (by omega) ?_
          refine wz_lmul (z := ((dl P (300 * a + k) * d0 : Nat) : Int)) hx hb d_M_scale_37 (by rw [Int.natCast_mul]) ?_
          refine lv_lload hx hb d_M_scale_38 (lv_at hl 4 rfl) ?_
          refine wz_ladd (z := (w0 : Int)) hx hb d_M_scale_40 (by omega) ?_
          refine lv_lstore (lv' := [(8, .long (iL ((w0 : Int)))), (0, .ref (ad (98))), (1, .int (iI ((to : Int)))), (2, .int (iI ((a : Int)))), (3, .int (iI ((d0 : Int)))), (4, .long (iL ((cy : Int)))), (6, .int (iI ((n : Int)))), (7, .int (iI ((k : Int))))]) hx hb d_M_scale_41 hl (by decide) rfl (fun ls hl => ?_)
          refine lv_aload_n hx hb d_M_scale_43 rfl (lv_at hl 1 rfl) ?_
          refine pw_get (ci := 6) (C := R_M) (T := T_M) (N := 8) hx hb hq i_M hown hw (by omega) hO rfl 1 (by decide) (hq _ fl_M_7) (fun _ h9 => h9) rfl d_M_scale_44 ?_
          refine wz_sipush (n := 300) hx hb d_M_scale_47 (by decide) ?_
          refine lv_iload_n hx hb d_M_scale_50 rfl (lv_at hl 2 rfl) ?_
          refine wz_imul hx hb d_M_scale_51 rfl ?_
          refine lv_iload hx hb d_M_scale_52 (lv_at hl 7 rfl) ?_
          refine wz_iadd hx hb d_M_scale_54 rfl ?_
          refine lv_lload hx hb d_M_scale_55 (lv_at hl 0 rfl) ?_
          refine lv_ldc2 (v := iL (65536)) hx hb hown (hq _ cj_M_37) d_M_scale_57 ?_
          refine wz_lrem (a := w0) (b := 65536) (z := w0 % 65536) hx hb d_M_scale_60 (by omega) (by omega) (by omega) (rfl) ?_
          refine wz_l2i hx hb d_M_scale_61 ?_
          refine pw_iast (k := 300 * to + k) hx hb hw 0 (by omega) h99 rfl (iI_in (by omega) (by omega) (by omega)) ((iI_cl (by omega) (by omega)).trans (by omega)) d_M_scale_62 (fun F62 H locs eF62 hw => ?_)
          have m62_99 : F62 (99) = .inl (ty 0, 12900, .inl (upd P9 (300 * to + k) (iI (((w0 % 65536 : Nat) : Int))))) := by rw [eF62]; exact va_up_self ..
          have hO_at_62 : F62 (98) = .inr (6, [.int (iI (co)), .ref (ad (99)), .ref (ad (100)), .ref (ad (101)), .ref (ad (102)), .int (iI (ln)), .int (iI (wr)), .ref (ad (103))]) := (show F62 (98) = F14 (98) from by rw [eF62]; exact va_up_ne _ _ (by omega)).trans hO
          have h100_at_62 : F62 (100) = .inl (ty 0, 43, .inl (S)) := (show F62 (100) = F14 (100) from by rw [eF62]; exact va_up_ne _ _ (by omega)).trans h100
          have h101_at_62 : F62 (101) = .inl (ty 4, 43, .inl (G)) := (show F62 (101) = F14 (101) from by rw [eF62]; exact va_up_ne _ _ (by omega)).trans h101
          refine lv_lload hx hb d_M_scale_63 (lv_at hl 0 rfl) ?_
          refine lv_ldc2 (v := iL (65536)) hx hb hown (hq _ cj_M_37) d_M_scale_65 ?_
          refine wz_ldiv (a := w0) (b := 65536) (z := w0 / 65536) hx hb d_M_scale_68 (by omega) (by omega) (by omega) (rfl) ?_
          refine lv_lstore (lv' := [(4, .long (iL (((w0 / 65536 : Nat) : Int)))), (8, .long (iL ((w0 : Int)))), (0, .ref (ad (98))), (1, .int (iI ((to : Int)))), (2, .int (iI ((a : Int)))), (3, .int (iI ((d0 : Int)))), (6, .int (iI ((n : Int)))), (7, .int (iI ((k : Int))))]) hx hb d_M_scale_69 hl (by decide) rfl (fun ls hl => ?_)
          refine wz_iinc (z := ((k + 1 : Nat) : Int)) (lv' := [(7, .int (iI (((k + 1 : Nat) : Int)))), (4, .long (iL (((w0 / 65536 : Nat) : Int)))), (8, .long (iL ((w0 : Int)))), (0, .ref (ad (98))), (1, .int (iI ((to : Int)))), (2, .int (iI ((a : Int)))), (3, .int (iI ((d0 : Int)))), (6, .int (iI ((n : Int))))]) hx hb d_M_scale_71 hl (k := 7) rfl (by omega) (by decide) rfl (fun ls hl => ?_)
          refine lv_goto (tgt := 14) hx hb d_M_scale_74 (by decide) ?_
          exact ih14 (k + 1) (w0 / 65536) (upd P9 (300 * to + k) (iI ((w0 % 65536 : Nat) : Int))) _ _ _ ls (by omega) (by omega) (by omega) (by
            rw [bvP_s, bvP_up (Nat.le_refl _), dig_up (by omega), bvP_s P a, Nat.pow_succ]; exact mul_step hval hw0) (Dg_up hDg (by omega)) (fun j hj => by rw [pk_un (by omega)]; exact hPo j hj) (fun y9 h9 => (show F62 (y9) = F14 (y9) from by rw [eF62]; exact va_up_ne _ _ (by omega)).trans (hfr y9 h9)) hO_at_62 m62_99 h100_at_62 h101_at_62 hw (lv_sub hl [3, 4, 5, 6, 1, 7, 0] rfl)
    exact K14 _ 0 0 P _ _ _ ls (Nat.lt_succ_self _) (by omega) (by omega) (by simp [bvP_0]) (fun i hi => absurd hi (by omega)) (fun j hj => rfl) (fun y9 h9 => rfl) hO h99 h100 h101 hw (lv_sub hl [3, 4, 5, 6, 2, 1, 0] rfl)
  rw [hH, hlo] at hgo
  exact hgo
set_option maxHeartbeats 4000000 in
set_option maxRecDepth 100000 in
/-- takes(k, often) -/
theorem c_M_takes (l : Launch) (D : va_G) (ty : Nat → ClassId) (ad : Nat → Nat) (M : Nat) (F : Nat → va_E) (sz : Nat) (hM : 103 < M) (co ln wr : Int) (hO : F 98 = oM ad co ln wr) (P S G : Nat → Int32) (hMA : MA ty F P S G) (k n : Nat) (hk : k + n < 299) (hS38 : S 38 = iI n) (hD38 : Dg P 38 n) (hDw : ∀ i, i ≤ n → dl P (10800 + k + i) < 65536) (of0 : Nat) (hof : of0 < 65536) :
    CI l y_M_takes w_M_takes ({ frames := 0, cells := 0, slots := 0, locals := 0 } : Room) [.ref (ad (98)), .int (iI ((k : Int))), .long (iL ((of0 : Int)))] D ty ad M F sz (fun r F1 => ∃ bw : Nat, bw ≤ 1 ∧ r = iI bw ∧ ∃ P' : Nat → Int32, MA ty F1 P' S G ∧ (∀ i, i ≤ n → dl P' (10800 + k + i) < 65536) ∧ (∀ j, j < 10800 + k ∨ 10800 + k + n < j → P' j = P j) ∧ frM F F1 ∧ ww P' k (n + 1) + of0 * bvP P 38 n = ww P k (n + 1) + bw * 65536 ^ (n + 1)) := by
  refine Met.ofW (cc := b_M_takes) (maxL := 12) (ret := (some .boolean)) (by decide) rfl ?_
  intro p e s m args below meth c s₁ B hml hv
  obtain ⟨rfl, hsz, hP, hK, hD0⟩ := hv
  have hx := B.exec
  have hb := B.bytes
  have hr := B.returns
  have hts := atoms_spec (ws := w_M_takes) B.pre
  have hq : ∀ w ∈ wT, w.before _ s = true := fun w h => hts w (List.mem_cons_of_mem _ h)
  have hown : s.vm.findClass R_M = some m.cls := findClass_of_methodNamed B.named
  have hlocks := B.notSynchronized
  subst hsz
  have hw := pw_start hP hK hD0
  have hl := lv_entry ([.ref (ad (98)), .int (iI ((k : Int))), .long (iL ((of0 : Int)))]) (n := 12) (Nat.le_of_ble_eq_true rfl)
  rw [lg_entry_eq]
  generalize (lg_sl ([.ref (ad (98)), .int (iI ((k : Int))), .long (iL ((of0 : Int)))]) ++ List.replicate (12 - (lg_sl ([.ref (ad (98)), .int (iI ((k : Int))), .long (iL ((of0 : Int)))])).length) Slot.unset).toArray = ls at hl ⊢
  have hl : lv_has ls 12 [(0, .ref (ad (98))), (1, .int (iI ((k : Int)))), (2, .long (iL ((of0 : Int))))] := hl
  change W p l e ({ frames := 0, cells := 0, slots := 0, locals := 0 } : Room) s m ([.ref (ad (98)), .int (iI ((k : Int))), .long (iL ((of0 : Int)))]).toArray below meth c s.heap [] 0 0 (MQ below (va_Qi (fun r F1 => ∃ bw : Nat, bw ≤ 1 ∧ r = iI bw ∧ ∃ P' : Nat → Int32, MA ty F1 P' S G ∧ (∀ i, i ≤ n → dl P' (10800 + k + i) < 65536) ∧ (∀ j, j < 10800 + k ∨ 10800 + k + n < j → P' j = P j) ∧ frM F F1 ∧ ww P' k (n + 1) + of0 * bvP P 38 n = ww P k (n + 1) + bw * 65536 ^ (n + 1)) (pAt D classes (tysL ty) ad M (pA ad M s.heap.size)) (pA ad M s.heap.size)) ([.ref (ad (98)), .int (iI ((k : Int))), .long (iL ((of0 : Int)))]).toArray s 0 0 (pA ad M s.heap.size)) (F0 m 0 ls [])
  generalize hQ : MQ below (va_Qi (fun r F1 => ∃ bw : Nat, bw ≤ 1 ∧ r = iI bw ∧ ∃ P' : Nat → Int32, MA ty F1 P' S G ∧ (∀ i, i ≤ n → dl P' (10800 + k + i) < 65536) ∧ (∀ j, j < 10800 + k ∨ 10800 + k + n < j → P' j = P j) ∧ frM F F1 ∧ ww P' k (n + 1) + of0 * bvP P 38 n = ww P k (n + 1) + bw * 65536 ^ (n + 1)) (pAt D classes (tysL ty) ad M (pA ad M s.heap.size)) (pA ad M s.heap.size)) ([.ref (ad (98)), .int (iI ((k : Int))), .long (iL ((of0 : Int)))]).toArray s 0 0 (pA ad M s.heap.size) = Q
  obtain ⟨H, hH⟩ : ∃ H, H = s.heap := ⟨_, rfl⟩
  obtain ⟨locs, hlo⟩ : ∃ z : List Loc, z = [] := ⟨_, rfl⟩
  have hw : pw D classes (tysL ty) ad M F (pA ad M s.heap.size) s H locs := by rw [hH, hlo]; exact hw
  have hgo : W p l e ({ frames := 0, cells := 0, slots := 0, locals := 0 } : Room) s m ([.ref (ad (98)), .int (iI ((k : Int))), .long (iL ((of0 : Int)))]).toArray below meth c H locs 0 0 Q (F0 m 0 ls []) := by
    obtain ⟨h99, h100, h101⟩ := id hMA
    refine lv_aload_n hx hb d_M_takes_0 rfl (lv_at hl 0 rfl) ?_
    refine pw_get (ci := 6) (C := R_M) (T := T_M) (N := 8) hx hb hq i_M hown hw (by omega) hO rfl 2 (by decide) (hq _ fl_M_13) (fun _ h9 => h9) rfl d_M_takes_1 ?_
    refine wz_bipush (n := 38) hx hb d_M_takes_4 (by decide) ?_
    refine pw_iald (k := 38) hx hb hw 0 (by omega) h100 rfl (iI_in (by omega) (by omega) (by omega)) ((iI_cl (by omega) (by omega)).trans (by omega)) d_M_takes_6 ?_
    refine lv_topi (fun x6 ex6 => ?_)
    obtain rfl : x6 = iI ((n : Int)) := ex6.trans (hS38)
    refine lv_istore (lv' := [(4, .int (iI ((n : Int)))), (0, .ref (ad (98))), (1, .int (iI ((k : Int)))), (2, .long (iL ((of0 : Int))))]) hx hb d_M_takes_7 hl (by decide) rfl (fun ls hl => ?_)
    refine lv_lconst (v := iL 0) hx hb d_M_takes_9 (by decide) ?_
    refine lv_lstore (lv' := [(5, .long (iL (0))), (4, .int (iI ((n : Int)))), (0, .ref (ad (98))), (1, .int (iI ((k : Int)))), (2, .long (iL ((of0 : Int))))]) hx hb d_M_takes_10 hl (by decide) rfl (fun ls hl => ?_)
    refine wz_iconst (n := 0) hx hb d_M_takes_12 ?_
    refine lv_istore (lv' := [(7, .int (iI (0))), (5, .long (iL (0))), (4, .int (iI ((n : Int)))), (0, .ref (ad (98))), (1, .int (iI ((k : Int)))), (2, .long (iL ((of0 : Int))))]) hx hb d_M_takes_13 hl (by decide) rfl (fun ls hl => ?_)
    have K15 : ∀ (fuel : Nat) (i bw : Nat) (P9 : Nat → Int32) (F15 : Nat → va_E) (H : Heap) (locs : List Loc) (ls : Array Slot), n + 1 - i < fuel → (i ≤ n + 1) → (bw ≤ 65535) → (ww P9 k i + of0 * bv 65536 (pd P 38 n) i = ww P k i + bw * 65536 ^ i) → (∀ i, i ≤ n → dl P9 (10800 + k + i) < 65536) → (∀ j, j < 10800 + k ∨ 10800 + k + i ≤ j → P9 j = P j) → (∀ y, y ≠ 99 → F15 y = F y) → F15 (98) = .inr (6, [.int (iI (co)), .ref (ad (99)), .ref (ad (100)), .ref (ad (101)), .ref (ad (102)), .int (iI (ln)), .int (iI (wr)), .ref (ad (103))]) → F15 (99) = .inl (ty 0, 12900, .inl (P9)) → F15 (100) = .inl (ty 0, 43, .inl (S)) → F15 (101) = .inl (ty 4, 43, .inl (G)) → pw D classes (tysL ty) ad M F15 (pA ad M s.heap.size) s H locs → lv_has ls 12 [(0, .ref (ad (98))), (1, .int (iI ((k : Int)))), (2, .long (iL ((of0 : Int)))), (4, .int (iI ((n : Int)))), (5, .long (iL ((bw : Int)))), (7, .int (iI ((i : Int))))] → W p l e ({ frames := 0, cells := 0, slots := 0, locals := 0 } : Room) s m ([.ref (ad (98)), .int (iI ((k : Int))), .long (iL ((of0 : Int)))]).toArray below meth c H locs 0 0 Q (F0 m 15 ls []) := by
      intro fuel
      induction fuel with
      | zero => intro i bw P9 F15 H locs ls hfuel hi hbw hval hDg hPo hfr hO h99 h100 h101 hw hl; exact absurd hfuel (Nat.not_lt_zero _)
      | succ fuel ih15 =>
        intro i bw P9 F15 H locs ls hfuel hi hbw hval hDg hPo hfr hO h99 h100 h101 hw hl
        refine lv_iload hx hb d_M_takes_15 (lv_at hl 5 rfl) ?_
        refine lv_iload hx hb d_M_takes_17 (lv_at hl 3 rfl) ?_
        refine wz_icmp_gt (tgt := 128) hx hb d_M_takes_19 (by decide) (by omega) (by omega) (by omega) (by omega) (fun c19 => ?_) (fun c19 => ?_)
        · have hin9 : i = n + 1 := by omega
          subst hin9
          rw [pd_bv (by omega)] at hval
          have hbw1 : bw ≤ 1 := tk_bw hval (bv_lt (fun i9 h9 => hDg i9 (by omega))) hof (bvP_lt hD38)
          refine lv_lload hx hb d_M_takes_128 (lv_at hl 4 rfl) ?_
          refine lv_lconst (v := iL 0) hx hb d_M_takes_130 (by decide) ?_
          refine wz_lcmp_le (tgt := 139) hx hb d_M_takes_131 d_M_takes_132 (by decide) (by omega) (by omega) (by omega) (by omega) (fun c131 => ?_) (fun c131 => ?_)
          · refine wz_iconst (n := 0) hx hb d_M_takes_139 ?_
            rw [← hQ]
            exact pw_zret hx hb hr (by decide) hlocks hw (⟨0, by decide, rfl, P9, ⟨h99, h100, h101⟩, hDg, fun j hj => hPo j (by omega), fun y9 h1 h2 h3 => (rfl).trans (hfr y9 h1), by rw [hval, show bw = 0 by omega]⟩) d_M_takes_140
          · refine wz_iconst (n := 1) hx hb d_M_takes_135 ?_
            refine lv_goto (tgt := 140) hx hb d_M_takes_136 (by decide) ?_
            rw [← hQ]
            exact pw_zret hx hb hr (by decide) hlocks hw (⟨1, by decide, rfl, P9, ⟨h99, h100, h101⟩, hDg, fun j hj => hPo j (by omega), fun y9 h1 h2 h3 => (rfl).trans (hfr y9 h1), by rw [hval, show bw = 1 by omega]⟩) d_M_takes_140
        · have hlB := pd_lt hD38 i
          have hdW := hDw i (by omega)
          have hm9 : pd P 38 n i * of0 ≤ 65535 * 65535 := Nat.mul_le_mul (by omega) (by omega)
          obtain ⟨vv, hvv⟩ : ∃ vv : Int, vv = ((dl P (10800 + k + i) : Nat) : Int) - ((pd P 38 n i * of0 : Nat) : Int) - bw := ⟨_, rfl⟩
          obtain ⟨ow, how⟩ : ∃ ow : Nat, (ow : Int) = vv % 65536 := ⟨(vv % 65536).toNat, by omega⟩
          obtain ⟨bb, hbb⟩ : ∃ bb : Nat, (bb : Int) = -(vv / 65536) := ⟨(-(vv / 65536)).toNat, by omega⟩
          refine lv_aload_n hx hb d_M_takes_22 rfl (lv_at hl 0 rfl) ?_
          refine pw_get (ci := 6) (C := R_M) (T := T_M) (N := 8) hx hb hq i_M hown hw (by omega) hO rfl 1 (by decide) (hq _ fl_M_7) (fun _ h9 => h9) rfl d_M_takes_23 ?_
          refine wz_sipush (n := 10800) hx hb d_M_takes_26 (by decide) ?_
          refine lv_iload_n hx hb d_M_takes_29 rfl (lv_at hl 1 rfl) ?_
          refine wz_iadd hx hb d_M_takes_30 rfl ?_
          refine lv_iload hx hb d_M_takes_31 (lv_at hl 5 rfl) ?_
          refine wz_iadd hx hb d_M_takes_33 rfl ?_
          refine pw_iald (k := 10800 + k + i) hx hb hw 0 (by omega) h99 rfl (iI_in (by omega) (by omega) (by omega)) ((iI_cl (by omega) (by omega)).trans (by omega)) d_M_takes_34 ?_
          refine lv_topi (fun x34 ex34 => ?_)
          obtain rfl : x34 = iI ((dl P (10800 + k + i) : Int)) := ex34.trans ((hPo _ (by omega)).trans (dl_get (by omega)))
          refine wz_i2l hx hb d_M_takes_35 (by omega) (by omega) ?_
          refine lv_iload hx hb d_M_takes_36 (lv_at hl 5 rfl) ?_
          refine lv_iload hx hb d_M_takes_38 (lv_at hl 3 rfl) ?_
          refine wz_icmp_ge (tgt := 60) hx hb d_M_takes_40 (by decide) (by omega) (by omega) (by omega) (by omega) (fun c40 => ?_) (fun c40 => ?_)
          · have hpB := pd_out (P := P) (a := 38) (n := n) (i := i) (by omega)
            refine lv_lconst (v := iL 0) hx hb d_M_takes_60 (by decide) ?_
            refine wz_lsub (z := ((dl P (10800 + k + i) : Nat) : Int) - ((pd P 38 n i * of0 : Nat) : Int)) hx hb d_M_takes_61 (by rw [hpB]; simp) ?_
            refine lv_lload hx hb d_M_takes_62 (lv_at hl 4 rfl) ?_
            refine wz_lsub (z := vv) hx hb d_M_takes_64 (by omega) ?_
            refine lv_lstore (lv' := [(8, .long (iL (vv))), (0, .ref (ad (98))), (1, .int (iI ((k : Int)))), (2, .long (iL ((of0 : Int)))), (4, .int (iI ((n : Int)))), (5, .long (iL ((bw : Int)))), (7, .int (iI ((i : Int))))]) hx hb d_M_takes_65 hl (by decide) rfl (fun ls hl => ?_)
            refine lv_lload hx hb d_M_takes_67 (lv_at hl 0 rfl) ?_
            refine lv_ldc2 (v := iL (65536)) hx hb hown (hq _ cj_M_37) d_M_takes_69 ?_
            refine wz_lremT (a := vv) (b := 65536) (z := vv.tmod 65536) hx hb d_M_takes_72 (by omega) (by omega) (by omega) (by omega) (rfl) ?_
            refine lv_lstore (lv' := [(10, .long (iL (vv.tmod 65536))), (8, .long (iL (vv))), (0, .ref (ad (98))), (1, .int (iI ((k : Int)))), (2, .long (iL ((of0 : Int)))), (4, .int (iI ((n : Int)))), (5, .long (iL ((bw : Int)))), (7, .int (iI ((i : Int))))]) hx hb d_M_takes_73 hl (by decide) rfl (fun ls hl => ?_)
            refine lv_lload hx hb d_M_takes_75 (lv_at hl 0 rfl) ?_
            refine lv_lconst (v := iL 0) hx hb d_M_takes_77 (by decide) ?_
            refine wz_lcmp_ge (tgt := 91) hx hb d_M_takes_78 d_M_takes_79 (by decide) (by first | omega | exact tm_lo _ | exact tm_hi _) (by first | omega | exact tm_lo _ | exact tm_hi _) (by first | omega | exact tm_lo _ | exact tm_hi _) (by first | omega | exact tm_lo _ | exact tm_hi _) (fun c78 => ?_) (fun c78 => ?_)
            · rw [tmod_p c78, ← how] at hl
              refine lv_lload hx hb d_M_takes_91 (lv_at hl 0 rfl) ?_
              refine lv_lstore (lv' := [(10, .long (iL ((ow : Int)))), (8, .long (iL (vv))), (0, .ref (ad (98))), (1, .int (iI ((k : Int)))), (2, .long (iL ((of0 : Int)))), (4, .int (iI ((n : Int)))), (5, .long (iL ((bw : Int)))), (7, .int (iI ((i : Int))))]) hx hb d_M_takes_93 hl (by decide) rfl (fun ls hl => ?_)
              refine lv_aload_n hx hb d_M_takes_95 rfl (lv_at hl 2 rfl) ?_
              refine pw_get (ci := 6) (C := R_M) (T := T_M) (N := 8) hx hb hq i_M hown hw (by omega) hO rfl 1 (by decide) (hq _ fl_M_7) (fun _ h9 => h9) rfl d_M_takes_96 ?_
              refine wz_sipush (n := 10800) hx hb d_M_takes_99 (by decide) ?_
              refine lv_iload_n hx hb d_M_takes_102 rfl (lv_at hl 3 rfl) ?_
              refine wz_iadd hx hb d_M_takes_103 rfl ?_
              refine lv_iload hx hb d_M_takes_104 (lv_at hl 7 rfl) ?_
              refine wz_iadd hx hb d_M_takes_106 rfl ?_
              refine lv_lload hx hb d_M_takes_107 (lv_at hl 0 rfl) ?_
              refine wz_l2i hx hb d_M_takes_109 ?_
              refine pw_iast (k := 10800 + k + i) hx hb hw 0 (by omega) h99 rfl (iI_in (by omega) (by omega) (by omega)) ((iI_cl (by omega) (by omega)).trans (by omega)) d_M_takes_110 (fun F110 H locs eF110 hw => ?_)
              have m110_99 : F110 (99) = .inl (ty 0, 12900, .inl (upd P9 (10800 + k + i) (iI ((ow : Int))))) := by rw [eF110]; exact va_up_self ..
              have hO_at_110 : F110 (98) = .inr (6, [.int (iI (co)), .ref (ad (99)), .ref (ad (100)), .ref (ad (101)), .ref (ad (102)), .int (iI (ln)), .int (iI (wr)), .ref (ad (103))]) := (show F110 (98) = F15 (98) from by rw [eF110]; exact va_up_ne _ _ (by omega)).trans hO
              have h100_at_110 : F110 (100) = .inl (ty 0, 43, .inl (S)) := (show F110 (100) = F15 (100) from by rw [eF110]; exact va_up_ne _ _ (by omega)).trans h100
              have h101_at_110 : F110 (101) = .inl (ty 4, 43, .inl (G)) := (show F110 (101) = F15 (101) from by rw [eF110]; exact va_up_ne _ _ (by omega)).trans h101
              refine lv_lload hx hb d_M_takes_111 (lv_at hl 0 rfl) ?_
              refine lv_lload hx hb d_M_takes_113 (lv_at hl 1 rfl) ?_
              refine wz_lsub hx hb d_M_takes_115 rfl ?_
              refine lv_ldc2 (v := iL (65536)) hx hb hown (hq _ cj_M_37) d_M_takes_116 ?_
              refine wz_ldivT (a := (ow : Int) - vv) (b := 65536) (z := (bb : Int)) hx hb d_M_takes_119 (by omega) (by omega) (by omega) (by omega) (by rw [Int.tdiv_eq_ediv_of_nonneg (by omega)]; omega) ?_
              refine lv_lstore (lv' := [(5, .long (iL ((bb : Int)))), (10, .long (iL ((ow : Int)))), (8, .long (iL (vv))), (0, .ref (ad (98))), (1, .int (iI ((k : Int)))), (2, .long (iL ((of0 : Int)))), (4, .int (iI ((n : Int)))), (7, .int (iI ((i : Int))))]) hx hb d_M_takes_120 hl (by decide) rfl (fun ls hl => ?_)
              refine wz_iinc (z := ((i + 1 : Nat) : Int)) (lv' := [(7, .int (iI (((i + 1 : Nat) : Int)))), (5, .long (iL ((bb : Int)))), (10, .long (iL ((ow : Int)))), (8, .long (iL (vv))), (0, .ref (ad (98))), (1, .int (iI ((k : Int)))), (2, .long (iL ((of0 : Int)))), (4, .int (iI ((n : Int))))]) hx hb d_M_takes_122 hl (k := 7) rfl (by omega) (by decide) rfl (fun ls hl => ?_)
              refine lv_goto (tgt := 15) hx hb d_M_takes_125 (by decide) ?_
              exact ih15 (i + 1) bb (upd P9 (10800 + k + i) (iI ((ow : Nat) : Int))) _ _ _ ls (by omega) (by omega) (by omega) (by
                rw [ww_s, ww_s, ww_up (Nat.le_refl _), dl_us (by omega), bv_s, Nat.pow_succ]; exact tk_step hval (by omega)) (fun i9 h9 => dl_set9 (hDg i9 h9) (by omega)) (fun j hj => by rw [pk_un (by omega)]; exact hPo j (by omega)) (fun y9 h9 => (show F110 (y9) = F15 (y9) from by rw [eF110]; exact va_up_ne _ _ (by omega)).trans (hfr y9 h9)) hO_at_110 m110_99 h100_at_110 h101_at_110 hw (lv_sub hl [4, 5, 6, 7, 1, 0] rfl)
            · refine lv_lload hx hb d_M_takes_82 (lv_at hl 0 rfl) ?_
              refine lv_ldc2 (v := iL (65536)) hx hb hown (hq _ cj_M_37) d_M_takes_84 ?_
              refine wz_ladd (z := (ow : Int)) hx hb d_M_takes_87 (by rw [how]; exact tmod_n (by omega)) ?_
              refine lv_goto (tgt := 93) hx hb d_M_takes_88 (by decide) ?_
              refine lv_lstore (lv' := [(10, .long (iL ((ow : Int)))), (8, .long (iL (vv))), (0, .ref (ad (98))), (1, .int (iI ((k : Int)))), (2, .long (iL ((of0 : Int)))), (4, .int (iI ((n : Int)))), (5, .long (iL ((bw : Int)))), (7, .int (iI ((i : Int))))]) hx hb d_M_takes_93 hl (by decide) rfl (fun ls hl => ?_)
              refine lv_aload_n hx hb d_M_takes_95 rfl (lv_at hl 2 rfl) ?_
              refine pw_get (ci := 6) (C := R_M) (T := T_M) (N := 8) hx hb hq i_M hown hw (by omega) hO rfl 1 (by decide) (hq _ fl_M_7) (fun _ h9 => h9) rfl d_M_takes_96 ?_
              refine wz_sipush (n := 10800) hx hb d_M_takes_99 (by decide) ?_
              refine lv_iload_n hx hb d_M_takes_102 rfl (lv_at hl 3 rfl) ?_
              refine wz_iadd hx hb d_M_takes_103 rfl ?_
              refine lv_iload hx hb d_M_takes_104 (lv_at hl 7 rfl) ?_
              refine wz_iadd hx hb d_M_takes_106 rfl ?_
              refine lv_lload hx hb d_M_takes_107 (lv_at hl 0 rfl) ?_
              refine wz_l2i hx hb d_M_takes_109 ?_
              refine pw_iast (k := 10800 + k + i) hx hb hw 0 (by omega) h99 rfl (iI_in (by omega) (by omega) (by omega)) ((iI_cl (by omega) (by omega)).trans (by omega)) d_M_takes_110 (fun F110 H locs eF110 hw => ?_)
              have m110_99 : F110 (99) = .inl (ty 0, 12900, .inl (upd P9 (10800 + k + i) (iI ((ow : Int))))) := by rw [eF110]; exact va_up_self ..
              have hO_at_110 : F110 (98) = .inr (6, [.int (iI (co)), .ref (ad (99)), .ref (ad (100)), .ref (ad (101)), .ref (ad (102)), .int (iI (ln)), .int (iI (wr)), .ref (ad (103))]) := (show F110 (98) = F15 (98) from by rw [eF110]; exact va_up_ne _ _ (by omega)).trans hO
              have h100_at_110 : F110 (100) = .inl (ty 0, 43, .inl (S)) := (show F110 (100) = F15 (100) from by rw [eF110]; exact va_up_ne _ _ (by omega)).trans h100
              have h101_at_110 : F110 (101) = .inl (ty 4, 43, .inl (G)) := (show F110 (101) = F15 (101) from by rw [eF110]; exact va_up_ne _ _ (by omega)).trans h101
              refine lv_lload hx hb d_M_takes_111 (lv_at hl 0 rfl) ?_
              refine lv_lload hx hb d_M_takes_113 (lv_at hl 1 rfl) ?_
              refine wz_lsub hx hb d_M_takes_115 rfl ?_
              refine lv_ldc2 (v := iL (65536)) hx hb hown (hq _ cj_M_37) d_M_takes_116 ?_
              refine wz_ldivT (a := (ow : Int) - vv) (b := 65536) (z := (bb : Int)) hx hb d_M_takes_119 (by omega) (by omega) (by omega) (by omega) (by rw [Int.tdiv_eq_ediv_of_nonneg (by omega)]; omega) ?_
              refine lv_lstore (lv' := [(5, .long (iL ((bb : Int)))), (10, .long (iL ((ow : Int)))), (8, .long (iL (vv))), (0, .ref (ad (98))), (1, .int (iI ((k : Int)))), (2, .long (iL ((of0 : Int)))), (4, .int (iI ((n : Int)))), (7, .int (iI ((i : Int))))]) hx hb d_M_takes_120 hl (by decide) rfl (fun ls hl => ?_)
              refine wz_iinc (z := ((i + 1 : Nat) : Int)) (lv' := [(7, .int (iI (((i + 1 : Nat) : Int)))), (5, .long (iL ((bb : Int)))), (10, .long (iL ((ow : Int)))), (8, .long (iL (vv))), (0, .ref (ad (98))), (1, .int (iI ((k : Int)))), (2, .long (iL ((of0 : Int)))), (4, .int (iI ((n : Int))))]) hx hb d_M_takes_122 hl (k := 7) rfl (by omega) (by decide) rfl (fun ls hl => ?_)
              refine lv_goto (tgt := 15) hx hb d_M_takes_125 (by decide) ?_
              exact ih15 (i + 1) bb (upd P9 (10800 + k + i) (iI ((ow : Nat) : Int))) _ _ _ ls (by omega) (by omega) (by omega) (by
                rw [ww_s, ww_s, ww_up (Nat.le_refl _), dl_us (by omega), bv_s, Nat.pow_succ]; exact tk_step hval (by omega)) (fun i9 h9 => dl_set9 (hDg i9 h9) (by omega)) (fun j hj => by rw [pk_un (by omega)]; exact hPo j (by omega)) (fun y9 h9 => (show F110 (y9) = F15 (y9) from by rw [eF110]; exact va_up_ne _ _ (by omega)).trans (hfr y9 h9)) hO_at_110 m110_99 h100_at_110 h101_at_110 hw (lv_sub hl [4, 5, 6, 7, 1, 0] rfl)
          · have hpB := pd_in (P := P) (a := 38) (n := n) (i := i) (by omega)
            refine lv_aload_n hx hb d_M_takes_43 rfl (lv_at hl 0 rfl) ?_
            refine pw_get (ci := 6) (C := R_M) (T := T_M) (N := 8) hx hb hq i_M hown hw (by omega) hO rfl 1 (by decide) (hq _ fl_M_7) (fun _ h9 => h9) rfl d_M_takes_44 ?_
            refine wz_sipush (n := 11400) hx hb d_M_takes_47 (by decide) ?_
            refine lv_iload hx hb d_M_takes_50 (lv_at hl 5 rfl) ?_
            refine wz_iadd hx hb d_M_takes_52 rfl ?_
            have hd38 := hD38 i (by omega)
            refine pw_iald (k := 300 * 38 + i) hx hb hw 0 (by omega) h99 rfl (iI_in (by omega) (by omega) (by omega)) ((iI_cl (by omega) (by omega)).trans (by omega)) d_M_takes_53 ?_
            refine lv_topi (fun x53 ex53 => ?_)
            obtain rfl : x53 = iI ((dl P (300 * 38 + i) : Int)) := ex53.trans ((hPo _ (by omega)).trans (hD38.get (by omega)))
            refine wz_i2l hx hb d_M_takes_54 (by omega) (by omega) ?_
            refine lv_lload_n hx hb d_M_takes_55 rfl (lv_at hl 2 rfl) ?_
            refine wz_lmul (z := ((dl P (300 * 38 + i) * of0 : Nat) : Int)) hx hb d_M_takes_56 (by rw [Int.natCast_mul]) ?_
            refine lv_goto (tgt := 61) hx hb d_M_takes_57 (by decide) ?_
            refine wz_lsub (z := ((dl P (10800 + k + i) : Nat) : Int) - ((pd P 38 n i * of0 : Nat) : Int)) hx hb d_M_takes_61 (by rw [hpB]) ?_
            refine lv_lload hx hb d_M_takes_62 (lv_at hl 4 rfl) ?_
            refine wz_lsub (z := vv) hx hb d_M_takes_64 (by omega) ?_
            refine lv_lstore (lv' := [(8, .long (iL (vv))), (0, .ref (ad (98))), (1, .int (iI ((k : Int)))), (2, .long (iL ((of0 : Int)))), (4, .int (iI ((n : Int)))), (5, .long (iL ((bw : Int)))), (7, .int (iI ((i : Int))))]) hx hb d_M_takes_65 hl (by decide) rfl (fun ls hl => ?_)
            refine lv_lload hx hb d_M_takes_67 (lv_at hl 0 rfl) ?_
            refine lv_ldc2 (v := iL (65536)) hx hb hown (hq _ cj_M_37) d_M_takes_69 ?_
            refine wz_lremT (a := vv) (b := 65536) (z := vv.tmod 65536) hx hb d_M_takes_72 (by omega) (by omega) (by omega) (by omega) (rfl) ?_
            refine lv_lstore (lv' := [(10, .long (iL (vv.tmod 65536))), (8, .long (iL (vv))), (0, .ref (ad (98))), (1, .int (iI ((k : Int)))), (2, .long (iL ((of0 : Int)))), (4, .int (iI ((n : Int)))), (5, .long (iL ((bw : Int)))), (7, .int (iI ((i : Int))))]) hx hb d_M_takes_73 hl (by decide) rfl (fun ls hl => ?_)
            refine lv_lload hx hb d_M_takes_75 (lv_at hl 0 rfl) ?_
            refine lv_lconst (v := iL 0) hx hb d_M_takes_77 (by decide) ?_
            refine wz_lcmp_ge (tgt := 91) hx hb d_M_takes_78 d_M_takes_79 (by decide) (by first | omega | exact tm_lo _ | exact tm_hi _) (by first | omega | exact tm_lo _ | exact tm_hi _) (by first | omega | exact tm_lo _ | exact tm_hi _) (by first | omega | exact tm_lo _ | exact tm_hi _) (fun c78 => ?_) (fun c78 => ?_)
            · rw [tmod_p c78, ← how] at hl
              refine lv_lload hx hb d_M_takes_91 (lv_at hl 0 rfl) ?_
              refine lv_lstore (lv' := [(10, .long (iL ((ow : Int)))), (8, .long (iL (vv))), (0, .ref (ad (98))), (1, .int (iI ((k : Int)))), (2, .long (iL ((of0 : Int)))), (4, .int (iI ((n : Int)))), (5, .long (iL ((bw : Int)))), (7, .int (iI ((i : Int))))]) hx hb d_M_takes_93 hl (by decide) rfl (fun ls hl => ?_)
              refine lv_aload_n hx hb d_M_takes_95 rfl (lv_at hl 2 rfl) ?_
              refine pw_get (ci := 6) (C := R_M) (T := T_M) (N := 8) hx hb hq i_M hown hw (by omega) hO rfl 1 (by decide) (hq _ fl_M_7) (fun _ h9 => h9) rfl d_M_takes_96 ?_
              refine wz_sipush (n := 10800) hx hb d_M_takes_99 (by decide) ?_
              refine lv_iload_n hx hb d_M_takes_102 rfl (lv_at hl 3 rfl) ?_
              refine wz_iadd hx hb d_M_takes_103 rfl ?_
              refine lv_iload hx hb d_M_takes_104 (lv_at hl 7 rfl) ?_
              refine wz_iadd hx hb d_M_takes_106 rfl ?_
              refine lv_lload hx hb d_M_takes_107 (lv_at hl 0 rfl) ?_
              refine wz_l2i hx hb d_M_takes_109 ?_
              refine pw_iast (k := 10800 + k + i) hx hb hw 0 (by omega) h99 rfl (iI_in (by omega) (by omega) (by omega)) ((iI_cl (by omega) (by omega)).trans (by omega)) d_M_takes_110 (fun F110 H locs eF110 hw => ?_)
              have m110_99 : F110 (99) = .inl (ty 0, 12900, .inl (upd P9 (10800 + k + i) (iI ((ow : Int))))) := by rw [eF110]; exact va_up_self ..
              have hO_at_110 : F110 (98) = .inr (6, [.int (iI (co)), .ref (ad (99)), .ref (ad (100)), .ref (ad (101)), .ref (ad (102)), .int (iI (ln)), .int (iI (wr)), .ref (ad (103))]) := (show F110 (98) = F15 (98) from by rw [eF110]; exact va_up_ne _ _ (by omega)).trans hO
              have h100_at_110 : F110 (100) = .inl (ty 0, 43, .inl (S)) := (show F110 (100) = F15 (100) from by rw [eF110]; exact va_up_ne _ _ (by omega)).trans h100
              have h101_at_110 : F110 (101) = .inl (ty 4, 43, .inl (G)) := (show F110 (101) = F15 (101) from by rw [eF110]; exact va_up_ne _ _ (by omega)).trans h101
              refine lv_lload hx hb d_M_takes_111 (lv_at hl 0 rfl) ?_
              refine lv_lload hx hb d_M_takes_113 (lv_at hl 1 rfl) ?_
              refine wz_lsub hx hb d_M_takes_115 rfl ?_
              refine lv_ldc2 (v := iL (65536)) hx hb hown (hq _ cj_M_37) d_M_takes_116 ?_
              refine wz_ldivT (a := (ow : Int) - vv) (b := 65536) (z := (bb : Int)) hx hb d_M_takes_119 (by omega) (by omega) (by omega) (by omega) (by rw [Int.tdiv_eq_ediv_of_nonneg (by omega)]; omega) ?_
              refine lv_lstore (lv' := [(5, .long (iL ((bb : Int)))), (10, .long (iL ((ow : Int)))), (8, .long (iL (vv))), (0, .ref (ad (98))), (1, .int (iI ((k : Int)))), (2, .long (iL ((of0 : Int)))), (4, .int (iI ((n : Int)))), (7, .int (iI ((i : Int))))]) hx hb d_M_takes_120 hl (by decide) rfl (fun ls hl => ?_)
              refine wz_iinc (z := ((i + 1 : Nat) : Int)) (lv' := [(7, .int (iI (((i + 1 : Nat) : Int)))), (5, .long (iL ((bb : Int)))), (10, .long (iL ((ow : Int)))), (8, .long (iL (vv))), (0, .ref (ad (98))), (1, .int (iI ((k : Int)))), (2, .long (iL ((of0 : Int)))), (4, .int (iI ((n : Int))))]) hx hb d_M_takes_122 hl (k := 7) rfl (by omega) (by decide) rfl (fun ls hl => ?_)
              refine lv_goto (tgt := 15) hx hb d_M_takes_125 (by decide) ?_
              exact ih15 (i + 1) bb (upd P9 (10800 + k + i) (iI ((ow : Nat) : Int))) _ _ _ ls (by omega) (by omega) (by omega) (by
                rw [ww_s, ww_s, ww_up (Nat.le_refl _), dl_us (by omega), bv_s, Nat.pow_succ]; exact tk_step hval (by omega)) (fun i9 h9 => dl_set9 (hDg i9 h9) (by omega)) (fun j hj => by rw [pk_un (by omega)]; exact hPo j (by omega)) (fun y9 h9 => (show F110 (y9) = F15 (y9) from by rw [eF110]; exact va_up_ne _ _ (by omega)).trans (hfr y9 h9)) hO_at_110 m110_99 h100_at_110 h101_at_110 hw (lv_sub hl [4, 5, 6, 7, 1, 0] rfl)
            · refine lv_lload hx hb d_M_takes_82 (lv_at hl 0 rfl) ?_
              refine lv_ldc2 (v := iL (65536)) hx hb hown (hq _ cj_M_37) d_M_takes_84 ?_
              refine wz_ladd (z := (ow : Int)) hx hb d_M_takes_87 (by rw [how]; exact tmod_n (by omega)) ?_
              refine lv_goto (tgt := 93) hx hb d_M_takes_88 (by decide) ?_
              refine lv_lstore (lv' := [(10, .long (iL ((ow : Int)))), (8, .long (iL (vv))), (0, .ref (ad (98))), (1, .int (iI ((k : Int)))), (2, .long (iL ((of0 : Int)))), (4, .int (iI ((n : Int)))), (5, .long (iL ((bw : Int)))), (7, .int (iI ((i : Int))))]) hx hb d_M_takes_93 hl (by decide) rfl (fun ls hl => ?_)
              refine lv_aload_n hx hb d_M_takes_95 rfl (lv_at hl 2 rfl) ?_
              refine pw_get (ci := 6) (C := R_M) (T := T_M) (N := 8) hx hb hq i_M hown hw (by omega) hO rfl 1 (by decide) (hq _ fl_M_7) (fun _ h9 => h9) rfl d_M_takes_96 ?_
              refine wz_sipush (n := 10800) hx hb d_M_takes_99 (by decide) ?_
              refine lv_iload_n hx hb d_M_takes_102 rfl (lv_at hl 3 rfl) ?_
              refine wz_iadd hx hb d_M_takes_103 rfl ?_
              refine lv_iload hx hb d_M_takes_104 (lv_at hl 7 rfl) ?_
              refine wz_iadd hx hb d_M_takes_106 rfl ?_
              refine lv_lload hx hb d_M_takes_107 (lv_at hl 0 rfl) ?_
              refine wz_l2i hx hb d_M_takes_109 ?_
              refine pw_iast (k := 10800 + k + i) hx hb hw 0 (by omega) h99 rfl (iI_in (by omega) (by omega) (by omega)) ((iI_cl (by omega) (by omega)).trans (by omega)) d_M_takes_110 (fun F110 H locs eF110 hw => ?_)
              have m110_99 : F110 (99) = .inl (ty 0, 12900, .inl (upd P9 (10800 + k + i) (iI ((ow : Int))))) := by rw [eF110]; exact va_up_self ..
              have hO_at_110 : F110 (98) = .inr (6, [.int (iI (co)), .ref (ad (99)), .ref (ad (100)), .ref (ad (101)), .ref (ad (102)), .int (iI (ln)), .int (iI (wr)), .ref (ad (103))]) := (show F110 (98) = F15 (98) from by rw [eF110]; exact va_up_ne _ _ (by omega)).trans hO
              have h100_at_110 : F110 (100) = .inl (ty 0, 43, .inl (S)) := (show F110 (100) = F15 (100) from by rw [eF110]; exact va_up_ne _ _ (by omega)).trans h100
              have h101_at_110 : F110 (101) = .inl (ty 4, 43, .inl (G)) := (show F110 (101) = F15 (101) from by rw [eF110]; exact va_up_ne _ _ (by omega)).trans h101
              refine lv_lload hx hb d_M_takes_111 (lv_at hl 0 rfl) ?_
              refine lv_lload hx hb d_M_takes_113 (lv_at hl 1 rfl) ?_
              refine wz_lsub hx hb d_M_takes_115 rfl ?_
              refine lv_ldc2 (v := iL (65536)) hx hb hown (hq _ cj_M_37) d_M_takes_116 ?_
              refine wz_ldivT (a := (ow : Int) - vv) (b := 65536) (z := (bb : Int)) hx hb d_M_takes_119 (by omega) (by omega) (by omega) (by omega) (by rw [Int.tdiv_eq_ediv_of_nonneg (by omega)]; omega) ?_
              refine lv_lstore (lv' := [(5, .long (iL ((bb : Int)))), (10, .long (iL ((ow : Int)))), (8, .long (iL (vv))), (0, .ref (ad (98))), (1, .int (iI ((k : Int)))), (2, .long (iL ((of0 : Int)))), (4, .int (iI ((n : Int)))), (7, .int (iI ((i : Int))))]) hx hb d_M_takes_120 hl (by decide) rfl (fun ls hl => ?_)
              refine wz_iinc (z := ((i + 1 : Nat) : Int)) (lv' := [(7, .int (iI (((i + 1 : Nat) : Int)))), (5, .long (iL ((bb : Int)))), (10, .long (iL ((ow : Int)))), (8, .long (iL (vv))), (0, .ref (ad (98))), (1, .int (iI ((k : Int)))), (2, .long (iL ((of0 : Int)))), (4, .int (iI ((n : Int))))]) hx hb d_M_takes_122 hl (k := 7) rfl (by omega) (by decide) rfl (fun ls hl => ?_)
              refine lv_goto (tgt := 15) hx hb d_M_takes_125 (by decide) ?_
              exact ih15 (i + 1) bb (upd P9 (10800 + k + i) (iI ((ow : Nat) : Int))) _ _ _ ls (by omega) (by omega) (by omega) (by
                rw [ww_s, ww_s, ww_up (Nat.le_refl _), dl_us (by omega), bv_s, Nat.pow_succ]; exact tk_step hval (by omega)) (fun i9 h9 => dl_set9 (hDg i9 h9) (by omega)) (fun j hj => by rw [pk_un (by omega)]; exact hPo j (by omega)) (fun y9 h9 => (show F110 (y9) = F15 (y9) from by rw [eF110]; exact va_up_ne _ _ (by omega)).trans (hfr y9 h9)) hO_at_110 m110_99 h100_at_110 h101_at_110 hw (lv_sub hl [4, 5, 6, 7, 1, 0] rfl)
    exact K15 _ 0 0 P _ _ _ ls (Nat.lt_succ_self _) (by omega) (by omega) (by simp [ww, bv_0]) (hDw) (fun j hj => rfl) (fun y9 h9 => rfl) hO h99 h100 h101 hw (lv_sub hl [3, 4, 5, 2, 1, 0] rfl)
  rw [hH, hlo] at hgo
  exact hgo
set_option maxHeartbeats 4000000 in
set_option maxRecDepth 100000 in
/-- givesBack(k) -/
theorem c_M_givesBack (l : Launch) (D : va_G) (ty : Nat → ClassId) (ad : Nat → Nat) (M : Nat) (F : Nat → va_E) (sz : Nat) (hM : 103 < M) (co ln wr : Int) (hO : F 98 = oM ad co ln wr) (P S G : Nat → Int32) (hMA : MA ty F P S G) (k n : Nat) (hk : k + n < 299) (hS38 : S 38 = iI n) (hD38 : Dg P 38 n) (hDw : ∀ i, i ≤ n → dl P (10800 + k + i) < 65536) :
    CI l y_M_givesBack w_M_givesBack ({ frames := 0, cells := 0, slots := 0, locals := 0 } : Room) [.ref (ad (98)), .int (iI ((k : Int)))] D ty ad M F sz (fun r F1 => ∃ cy : Nat, cy ≤ 1 ∧ r = iI cy ∧ ∃ P' : Nat → Int32, MA ty F1 P' S G ∧ (∀ i, i ≤ n → dl P' (10800 + k + i) < 65536) ∧ (∀ j, j < 10800 + k ∨ 10800 + k + n < j → P' j = P j) ∧ frM F F1 ∧ ww P' k (n + 1) + cy * 65536 ^ (n + 1) = ww P k (n + 1) + bvP P 38 n) := by
  refine Met.ofW (cc := b_M_givesBack) (maxL := 6) (ret := (some .boolean)) (by decide) rfl ?_
  intro p e s m args below meth c s₁ B hml hv
  obtain ⟨rfl, hsz, hP, hK, hD0⟩ := hv
  have hx := B.exec
  have hb := B.bytes
  have hr := B.returns
  have hts := atoms_spec (ws := w_M_givesBack) B.pre
  have hq : ∀ w ∈ wT, w.before _ s = true := fun w h => hts w (List.mem_cons_of_mem _ h)
  have hown : s.vm.findClass R_M = some m.cls := findClass_of_methodNamed B.named
  have hlocks := B.notSynchronized
  subst hsz
  have hw := pw_start hP hK hD0
  have hl := lv_entry ([.ref (ad (98)), .int (iI ((k : Int)))]) (n := 6) (Nat.le_of_ble_eq_true rfl)
  rw [lg_entry_eq]
  generalize (lg_sl ([.ref (ad (98)), .int (iI ((k : Int)))]) ++ List.replicate (6 - (lg_sl ([.ref (ad (98)), .int (iI ((k : Int)))])).length) Slot.unset).toArray = ls at hl ⊢
  have hl : lv_has ls 6 [(0, .ref (ad (98))), (1, .int (iI ((k : Int))))] := hl
  change W p l e ({ frames := 0, cells := 0, slots := 0, locals := 0 } : Room) s m ([.ref (ad (98)), .int (iI ((k : Int)))]).toArray below meth c s.heap [] 0 0 (MQ below (va_Qi (fun r F1 => ∃ cy : Nat, cy ≤ 1 ∧ r = iI cy ∧ ∃ P' : Nat → Int32, MA ty F1 P' S G ∧ (∀ i, i ≤ n → dl P' (10800 + k + i) < 65536) ∧ (∀ j, j < 10800 + k ∨ 10800 + k + n < j → P' j = P j) ∧ frM F F1 ∧ ww P' k (n + 1) + cy * 65536 ^ (n + 1) = ww P k (n + 1) + bvP P 38 n) (pAt D classes (tysL ty) ad M (pA ad M s.heap.size)) (pA ad M s.heap.size)) ([.ref (ad (98)), .int (iI ((k : Int)))]).toArray s 0 0 (pA ad M s.heap.size)) (F0 m 0 ls [])
  generalize hQ : MQ below (va_Qi (fun r F1 => ∃ cy : Nat, cy ≤ 1 ∧ r = iI cy ∧ ∃ P' : Nat → Int32, MA ty F1 P' S G ∧ (∀ i, i ≤ n → dl P' (10800 + k + i) < 65536) ∧ (∀ j, j < 10800 + k ∨ 10800 + k + n < j → P' j = P j) ∧ frM F F1 ∧ ww P' k (n + 1) + cy * 65536 ^ (n + 1) = ww P k (n + 1) + bvP P 38 n) (pAt D classes (tysL ty) ad M (pA ad M s.heap.size)) (pA ad M s.heap.size)) ([.ref (ad (98)), .int (iI ((k : Int)))]).toArray s 0 0 (pA ad M s.heap.size) = Q
  obtain ⟨H, hH⟩ : ∃ H, H = s.heap := ⟨_, rfl⟩
  obtain ⟨locs, hlo⟩ : ∃ z : List Loc, z = [] := ⟨_, rfl⟩
  have hw : pw D classes (tysL ty) ad M F (pA ad M s.heap.size) s H locs := by rw [hH, hlo]; exact hw
  have hgo : W p l e ({ frames := 0, cells := 0, slots := 0, locals := 0 } : Room) s m ([.ref (ad (98)), .int (iI ((k : Int)))]).toArray below meth c H locs 0 0 Q (F0 m 0 ls []) := by
    obtain ⟨h99, h100, h101⟩ := id hMA
    refine lv_aload_n hx hb d_M_givesBack_0 rfl (lv_at hl 0 rfl) ?_
    refine pw_get (ci := 6) (C := R_M) (T := T_M) (N := 8) hx hb hq i_M hown hw (by omega) hO rfl 2 (by decide) (hq _ fl_M_13) (fun _ h9 => h9) rfl d_M_givesBack_1 ?_
    refine wz_bipush (n := 38) hx hb d_M_givesBack_4 (by decide) ?_
    refine pw_iald (k := 38) hx hb hw 0 (by omega) h100 rfl (iI_in (by omega) (by omega) (by omega)) ((iI_cl (by omega) (by omega)).trans (by omega)) d_M_givesBack_6 ?_
    refine lv_topi (fun x6 ex6 => ?_)
    obtain rfl : x6 = iI ((n : Int)) := ex6.trans (hS38)
    refine lv_istore_n (lv' := [(2, .int (iI ((n : Int)))), (0, .ref (ad (98))), (1, .int (iI ((k : Int))))]) hx hb d_M_givesBack_7 rfl hl (by decide) rfl (fun ls hl => ?_)
    refine wz_iconst (n := 0) hx hb d_M_givesBack_8 ?_
    refine lv_istore_n (lv' := [(3, .int (iI (0))), (2, .int (iI ((n : Int)))), (0, .ref (ad (98))), (1, .int (iI ((k : Int))))]) hx hb d_M_givesBack_9 rfl hl (by decide) rfl (fun ls hl => ?_)
    refine wz_iconst (n := 0) hx hb d_M_givesBack_10 ?_
    refine lv_istore (lv' := [(4, .int (iI (0))), (3, .int (iI (0))), (2, .int (iI ((n : Int)))), (0, .ref (ad (98))), (1, .int (iI ((k : Int))))]) hx hb d_M_givesBack_11 hl (by decide) rfl (fun ls hl => ?_)
    have K13 : ∀ (fuel : Nat) (i cy : Nat) (P9 : Nat → Int32) (F13 : Nat → va_E) (H : Heap) (locs : List Loc) (ls : Array Slot), n + 1 - i < fuel → (i ≤ n + 1) → (cy ≤ 1) → (ww P9 k i + cy * 65536 ^ i = ww P k i + bv 65536 (pd P 38 n) i) → (∀ i, i ≤ n → dl P9 (10800 + k + i) < 65536) → (∀ j, j < 10800 + k ∨ 10800 + k + i ≤ j → P9 j = P j) → (∀ y, y ≠ 99 → F13 y = F y) → F13 (98) = .inr (6, [.int (iI (co)), .ref (ad (99)), .ref (ad (100)), .ref (ad (101)), .ref (ad (102)), .int (iI (ln)), .int (iI (wr)), .ref (ad (103))]) → F13 (99) = .inl (ty 0, 12900, .inl (P9)) → F13 (100) = .inl (ty 0, 43, .inl (S)) → F13 (101) = .inl (ty 4, 43, .inl (G)) → pw D classes (tysL ty) ad M F13 (pA ad M s.heap.size) s H locs → lv_has ls 6 [(0, .ref (ad (98))), (1, .int (iI ((k : Int)))), (2, .int (iI ((n : Int)))), (3, .int (iI ((cy : Int)))), (4, .int (iI ((i : Int))))] → W p l e ({ frames := 0, cells := 0, slots := 0, locals := 0 } : Room) s m ([.ref (ad (98)), .int (iI ((k : Int)))]).toArray below meth c H locs 0 0 Q (F0 m 13 ls []) := by
      intro fuel
      induction fuel with
      | zero => intro i cy P9 F13 H locs ls hfuel hi hcy hval hDg hPo hfr hO h99 h100 h101 hw hl; exact absurd hfuel (Nat.not_lt_zero _)
      | succ fuel ih13 =>
        intro i cy P9 F13 H locs ls hfuel hi hcy hval hDg hPo hfr hO h99 h100 h101 hw hl
        refine lv_iload hx hb d_M_givesBack_13 (lv_at hl 4 rfl) ?_
        refine lv_iload_n hx hb d_M_givesBack_15 rfl (lv_at hl 2 rfl) ?_
        refine wz_icmp_gt (tgt := 88) hx hb d_M_givesBack_16 (by decide) (by omega) (by omega) (by omega) (by omega) (fun c16 => ?_) (fun c16 => ?_)
        · have hin9 : i = n + 1 := by omega
          subst hin9
          rw [pd_bv (by omega)] at hval
          refine lv_iload_n hx hb d_M_givesBack_88 rfl (lv_at hl 3 rfl) ?_
          refine wz_if_le (tgt := 96) hx hb d_M_givesBack_89 (by decide) (by omega) (by omega) (fun c89 => ?_) (fun c89 => ?_)
          · refine wz_iconst (n := 0) hx hb d_M_givesBack_96 ?_
            rw [← hQ]
            exact pw_zret hx hb hr (by decide) hlocks hw (⟨0, by decide, rfl, P9, ⟨h99, h100, h101⟩, hDg, fun j hj => hPo j (by omega), fun y9 h1 h2 h3 => (rfl).trans (hfr y9 h1), by rw [← hval, show cy = 0 by omega]⟩) d_M_givesBack_97
          · refine wz_iconst (n := 1) hx hb d_M_givesBack_92 ?_
            refine lv_goto (tgt := 97) hx hb d_M_givesBack_93 (by decide) ?_
            rw [← hQ]
            exact pw_zret hx hb hr (by decide) hlocks hw (⟨1, by decide, rfl, P9, ⟨h99, h100, h101⟩, hDg, fun j hj => hPo j (by omega), fun y9 h1 h2 h3 => (rfl).trans (hfr y9 h1), by rw [← hval, show cy = 1 by omega]⟩) d_M_givesBack_97
        · have hlB := pd_lt hD38 i
          have hdW := hDw i (by omega)
          obtain ⟨w0, hw0⟩ : ∃ w0, w0 = dl P (10800 + k + i) + pd P 38 n i + cy := ⟨_, rfl⟩
          refine lv_aload_n hx hb d_M_givesBack_19 rfl (lv_at hl 0 rfl) ?_
          refine pw_get (ci := 6) (C := R_M) (T := T_M) (N := 8) hx hb hq i_M hown hw (by omega) hO rfl 1 (by decide) (hq _ fl_M_7) (fun _ h9 => h9) rfl d_M_givesBack_20 ?_
          refine wz_sipush (n := 10800) hx hb d_M_givesBack_23 (by decide) ?_
          refine lv_iload_n hx hb d_M_givesBack_26 rfl (lv_at hl 1 rfl) ?_
          refine wz_iadd hx hb d_M_givesBack_27 rfl ?_
          refine lv_iload hx hb d_M_givesBack_28 (lv_at hl 4 rfl) ?_
          refine wz_iadd hx hb d_M_givesBack_30 rfl ?_
          refine pw_iald (k := 10800 + k + i) hx hb hw 0 (by omega) h99 rfl (iI_in (by omega) (by omega) (by omega)) ((iI_cl (by omega) (by omega)).trans (by omega)) d_M_givesBack_31 ?_
          refine lv_topi (fun x31 ex31 => ?_)
          obtain rfl : x31 = iI ((dl P (10800 + k + i) : Int)) := ex31.trans ((hPo _ (by omega)).trans (dl_get (by omega)))
          refine lv_iload hx hb d_M_givesBack_32 (lv_at hl 4 rfl) ?_
          refine lv_iload_n hx hb d_M_givesBack_34 rfl (lv_at hl 2 rfl) ?_
          refine wz_icmp_ge (tgt := 52) hx hb d_M_givesBack_35 (by decide) (by omega) (by omega) (by omega) (by omega) (fun c35 => ?_) (fun c35 => ?_)
          · have hpB := pd_out (P := P) (a := 38) (n := n) (i := i) (by omega)
            refine wz_iconst (n := 0) hx hb d_M_givesBack_52 ?_
            refine wz_iadd hx hb d_M_givesBack_53 rfl ?_
            refine lv_iload_n hx hb d_M_givesBack_54 rfl (lv_at hl 3 rfl) ?_
            refine wz_iadd (z := (w0 : Int)) hx hb d_M_givesBack_55 (by omega) ?_
            refine lv_istore (lv' := [(5, .int (iI ((w0 : Int)))), (0, .ref (ad (98))), (1, .int (iI ((k : Int)))), (2, .int (iI ((n : Int)))), (3, .int (iI ((cy : Int)))), (4, .int (iI ((i : Int))))]) hx hb d_M_givesBack_56 hl (by decide) rfl (fun ls hl => ?_)
            refine lv_aload_n hx hb d_M_givesBack_58 rfl (lv_at hl 1 rfl) ?_
            refine pw_get (ci := 6) (C := R_M) (T := T_M) (N := 8) hx hb hq i_M hown hw (by omega) hO rfl 1 (by decide) (hq _ fl_M_7) (fun _ h9 => h9) rfl d_M_givesBack_59 ?_
            refine wz_sipush (n := 10800) hx hb d_M_givesBack_62 (by decide) ?_
            refine lv_iload_n hx hb d_M_givesBack_65 rfl (lv_at hl 2 rfl) ?_
            refine wz_iadd hx hb d_M_givesBack_66 rfl ?_
            refine lv_iload hx hb d_M_givesBack_67 (lv_at hl 5 rfl) ?_
            refine wz_iadd hx hb d_M_givesBack_69 rfl ?_
            refine lv_iload hx hb d_M_givesBack_70 (lv_at hl 0 rfl) ?_
            refine lv_ldc (v := iI (65536)) hx hb hown (hq _ co_M_43) d_M_givesBack_72 ?_
            refine wz_irem (a := w0) (b := 65536) (z := w0 % 65536) hx hb d_M_givesBack_74 (by omega) (by omega) (by omega) (rfl) ?_
            refine pw_iast (k := 10800 + k + i) hx hb hw 0 (by omega) h99 rfl (iI_in (by omega) (by omega) (by omega)) ((iI_cl (by omega) (by omega)).trans (by omega)) d_M_givesBack_75 (fun F75 H locs eF75 hw => ?_)
            have m75_99 : F75 (99) = .inl (ty 0, 12900, .inl (upd P9 (10800 + k + i) (iI (((w0 % 65536 : Nat) : Int))))) := by rw [eF75]; exact va_up_self ..
            have hO_at_75 : F75 (98) = .inr (6, [.int (iI (co)), .ref (ad (99)), .ref (ad (100)), .ref (ad (101)), .ref (ad (102)), .int (iI (ln)), .int (iI (wr)), .ref (ad (103))]) := (show F75 (98) = F13 (98) from by rw [eF75]; exact va_up_ne _ _ (by omega)).trans hO
            have h100_at_75 : F75 (100) = .inl (ty 0, 43, .inl (S)) := (show F75 (100) = F13 (100) from by rw [eF75]; exact va_up_ne _ _ (by omega)).trans h100
            have h101_at_75 : F75 (101) = .inl (ty 4, 43, .inl (G)) := (show F75 (101) = F13 (101) from by rw [eF75]; exact va_up_ne _ _ (by omega)).trans h101
            refine lv_iload hx hb d_M_givesBack_76 (lv_at hl 0 rfl) ?_
            refine lv_ldc (v := iI (65536)) hx hb hown (hq _ co_M_43) d_M_givesBack_78 ?_
            refine wz_idiv (a := w0) (b := 65536) (z := w0 / 65536) hx hb d_M_givesBack_80 (by omega) (by omega) (by omega) (rfl) ?_
            refine lv_istore_n (lv' := [(3, .int (iI (((w0 / 65536 : Nat) : Int)))), (5, .int (iI ((w0 : Int)))), (0, .ref (ad (98))), (1, .int (iI ((k : Int)))), (2, .int (iI ((n : Int)))), (4, .int (iI ((i : Int))))]) hx hb d_M_givesBack_81 rfl hl (by decide) rfl (fun ls hl => ?_)
            refine wz_iinc (z := ((i + 1 : Nat) : Int)) (lv' := [(4, .int (iI (((i + 1 : Nat) : Int)))), (3, .int (iI (((w0 / 65536 : Nat) : Int)))), (5, .int (iI ((w0 : Int)))), (0, .ref (ad (98))), (1, .int (iI ((k : Int)))), (2, .int (iI ((n : Int))))]) hx hb d_M_givesBack_82 hl (k := 5) rfl (by omega) (by decide) rfl (fun ls hl => ?_)
            refine lv_goto (tgt := 13) hx hb d_M_givesBack_85 (by decide) ?_
            exact ih13 (i + 1) (w0 / 65536) (upd P9 (10800 + k + i) (iI ((w0 % 65536 : Nat) : Int))) _ _ _ ls (by omega) (by omega) (by omega) (by
              rw [ww_s, ww_s, ww_up (Nat.le_refl _), dl_us (by omega), bv_s, Nat.pow_succ]; exact gb_step hval hw0) (fun i9 h9 => dl_set9 (hDg i9 h9) (by omega)) (fun j hj => by rw [pk_un (by omega)]; exact hPo j (by omega)) (fun y9 h9 => (show F75 (y9) = F13 (y9) from by rw [eF75]; exact va_up_ne _ _ (by omega)).trans (hfr y9 h9)) hO_at_75 m75_99 h100_at_75 h101_at_75 hw (lv_sub hl [3, 4, 5, 1, 0] rfl)
          · have hpB := pd_in (P := P) (a := 38) (n := n) (i := i) (by omega)
            refine lv_aload_n hx hb d_M_givesBack_38 rfl (lv_at hl 0 rfl) ?_
            refine pw_get (ci := 6) (C := R_M) (T := T_M) (N := 8) hx hb hq i_M hown hw (by omega) hO rfl 1 (by decide) (hq _ fl_M_7) (fun _ h9 => h9) rfl d_M_givesBack_39 ?_
            refine wz_sipush (n := 11400) hx hb d_M_givesBack_42 (by decide) ?_
            refine lv_iload hx hb d_M_givesBack_45 (lv_at hl 4 rfl) ?_
            refine wz_iadd hx hb d_M_givesBack_47 rfl ?_
            have hd38 := hD38 i (by omega)
            refine pw_iald (k := 300 * 38 + i) hx hb hw 0 (by omega) h99 rfl (iI_in (by omega) (by omega) (by omega)) ((iI_cl (by omega) (by omega)).trans (by omega)) d_M_givesBack_48 ?_
            refine lv_topi (fun x48 ex48 => ?_)
            obtain rfl : x48 = iI ((dl P (300 * 38 + i) : Int)) := ex48.trans ((hPo _ (by omega)).trans (hD38.get (by omega)))
            refine lv_goto (tgt := 53) hx hb d_M_givesBack_49 (by decide) ?_
            refine wz_iadd hx hb d_M_givesBack_53 rfl ?_
            refine lv_iload_n hx hb d_M_givesBack_54 rfl (lv_at hl 3 rfl) ?_
            refine wz_iadd (z := (w0 : Int)) hx hb d_M_givesBack_55 (by omega) ?_
            refine lv_istore (lv' := [(5, .int (iI ((w0 : Int)))), (0, .ref (ad (98))), (1, .int (iI ((k : Int)))), (2, .int (iI ((n : Int)))), (3, .int (iI ((cy : Int)))), (4, .int (iI ((i : Int))))]) hx hb d_M_givesBack_56 hl (by decide) rfl (fun ls hl => ?_)
            refine lv_aload_n hx hb d_M_givesBack_58 rfl (lv_at hl 1 rfl) ?_
            refine pw_get (ci := 6) (C := R_M) (T := T_M) (N := 8) hx hb hq i_M hown hw (by omega) hO rfl 1 (by decide) (hq _ fl_M_7) (fun _ h9 => h9) rfl d_M_givesBack_59 ?_
            refine wz_sipush (n := 10800) hx hb d_M_givesBack_62 (by decide) ?_
            refine lv_iload_n hx hb d_M_givesBack_65 rfl (lv_at hl 2 rfl) ?_
            refine wz_iadd hx hb d_M_givesBack_66 rfl ?_
            refine lv_iload hx hb d_M_givesBack_67 (lv_at hl 5 rfl) ?_
            refine wz_iadd hx hb d_M_givesBack_69 rfl ?_
            refine lv_iload hx hb d_M_givesBack_70 (lv_at hl 0 rfl) ?_
            refine lv_ldc (v := iI (65536)) hx hb hown (hq _ co_M_43) d_M_givesBack_72 ?_
            refine wz_irem (a := w0) (b := 65536) (z := w0 % 65536) hx hb d_M_givesBack_74 (by omega) (by omega) (by omega) (rfl) ?_
            refine pw_iast (k := 10800 + k + i) hx hb hw 0 (by omega) h99 rfl (iI_in (by omega) (by omega) (by omega)) ((iI_cl (by omega) (by omega)).trans (by omega)) d_M_givesBack_75 (fun F75 H locs eF75 hw => ?_)
            have m75_99 : F75 (99) = .inl (ty 0, 12900, .inl (upd P9 (10800 + k + i) (iI (((w0 % 65536 : Nat) : Int))))) := by rw [eF75]; exact va_up_self ..
            have hO_at_75 : F75 (98) = .inr (6, [.int (iI (co)), .ref (ad (99)), .ref (ad (100)), .ref (ad (101)), .ref (ad (102)), .int (iI (ln)), .int (iI (wr)), .ref (ad (103))]) := (show F75 (98) = F13 (98) from by rw [eF75]; exact va_up_ne _ _ (by omega)).trans hO
            have h100_at_75 : F75 (100) = .inl (ty 0, 43, .inl (S)) := (show F75 (100) = F13 (100) from by rw [eF75]; exact va_up_ne _ _ (by omega)).trans h100
            have h101_at_75 : F75 (101) = .inl (ty 4, 43, .inl (G)) := (show F75 (101) = F13 (101) from by rw [eF75]; exact va_up_ne _ _ (by omega)).trans h101
            refine lv_iload hx hb d_M_givesBack_76 (lv_at hl 0 rfl) ?_
            refine lv_ldc (v := iI (65536)) hx hb hown (hq _ co_M_43) d_M_givesBack_78 ?_
            refine wz_idiv (a := w0) (b := 65536) (z := w0 / 65536) hx hb d_M_givesBack_80 (by omega) (by omega) (by omega) (rfl) ?_
            refine lv_istore_n (lv' := [(3, .int (iI (((w0 / 65536 : Nat) : Int)))), (5, .int (iI ((w0 : Int)))), (0, .ref (ad (98))), (1, .int (iI ((k : Int)))), (2, .int (iI ((n : Int)))), (4, .int (iI ((i : Int))))]) hx hb d_M_givesBack_81 rfl hl (by decide) rfl (fun ls hl => ?_)
            refine wz_iinc (z := ((i + 1 : Nat) : Int)) (lv' := [(4, .int (iI (((i + 1 : Nat) : Int)))), (3, .int (iI (((w0 / 65536 : Nat) : Int)))), (5, .int (iI ((w0 : Int)))), (0, .ref (ad (98))), (1, .int (iI ((k : Int)))), (2, .int (iI ((n : Int))))]) hx hb d_M_givesBack_82 hl (k := 5) rfl (by omega) (by decide) rfl (fun ls hl => ?_)
            refine lv_goto (tgt := 13) hx hb d_M_givesBack_85 (by decide) ?_
            exact ih13 (i + 1) (w0 / 65536) (upd P9 (10800 + k + i) (iI ((w0 % 65536 : Nat) : Int))) _ _ _ ls (by omega) (by omega) (by omega) (by
              rw [ww_s, ww_s, ww_up (Nat.le_refl _), dl_us (by omega), bv_s, Nat.pow_succ]; exact gb_step hval hw0) (fun i9 h9 => dl_set9 (hDg i9 h9) (by omega)) (fun j hj => by rw [pk_un (by omega)]; exact hPo j (by omega)) (fun y9 h9 => (show F75 (y9) = F13 (y9) from by rw [eF75]; exact va_up_ne _ _ (by omega)).trans (hfr y9 h9)) hO_at_75 m75_99 h100_at_75 h101_at_75 hw (lv_sub hl [3, 4, 5, 1, 0] rfl)
    exact K13 _ 0 0 P _ _ _ ls (Nat.lt_succ_self _) (by omega) (by omega) (by simp [ww, bv_0]) (hDw) (fun j hj => rfl) (fun y9 h9 => rfl) hO h99 h100 h101 hw (lv_sub hl [3, 4, 2, 1, 0] rfl)
  rw [hH, hlo] at hgo
  exact hgo
