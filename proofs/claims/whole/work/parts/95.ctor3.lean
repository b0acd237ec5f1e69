/-! constructors: the desk: by program -/
set_option maxHeartbeats 400000 in
set_option maxRecDepth 100000 in
/-- new FractionDesk() -/
theorem c_K_init (l : Launch) (D : va_G) (ty : Nat → ClassId) (ad : Nat → Nat) (M : Nat) (F : Nat → va_E) (sz : Nat) (hM : M = 1) (h0 : F 0 = .inr (5, [.null, .null, .null, .int (iI 0)])) :
    CNq l y_K_init w_K_init ({ frames := 4, cells := 97, slots := 4516, locals := 88 } : Room) [.ref (ad (0))] D ty ad M F sz 97 (97) (4516) (fun u => Dk ty u.1 u.2 g0) := by
  refine Met.ofW (cc := b_K_init) (maxL := 2) (ret := none) (by decide) rfl ?_
  intro p e s m args below meth c s₁ B hml hv
  obtain ⟨rfl, ⟨hsz, hP, hK, hD0⟩, hAO⟩ := hv
  have hx := B.exec
  have hb := B.bytes
  have hr := B.returns
  have hts := atoms_spec (ws := w_K_init) B.pre
  have hq : ∀ w ∈ wT, w.before _ s = true := fun w h => hts w (List.mem_cons_of_mem _ h)
  have hown : s.vm.findClass R_K = some m.cls := findClass_of_methodNamed B.named
  have hlocks := B.notSynchronized
  have hin : meth.name = "<init>" := (name_of_methodNamed B.named B.method).1
  subst hsz
  have hw := pw_start hP hK hD0
  have hl := lv_entry ([.ref (ad (0))]) (n := 2) (Nat.le_of_ble_eq_true rfl)
  rw [lg_entry_eq]
  generalize (lg_sl ([.ref (ad (0))]) ++ List.replicate (2 - (lg_sl ([.ref (ad (0))])).length) Slot.unset).toArray = ls at hl ⊢
  have hl : lv_has ls 2 [(0, .ref (ad (0)))] := hl
  change W p l e ({ frames := 4, cells := 97, slots := 4516, locals := 88 } : Room) s m ([.ref (ad (0))]).toArray below meth c s.heap [] 0 0 (MQ below (va_Qv (fun u : (Nat → Nat) × (Nat → va_E) => (∀ i, i < M → u.1 i = ad i) ∧ (fun u => Dk ty u.1 u.2 g0) u) (fun u => pAt D classes (tysL ty) u.1 (M + 97) (pA ad M s.heap.size) u.2) (pA ad M s.heap.size)) ([.ref (ad (0))]).toArray s (97) (4516) (pA ad M s.heap.size)) (F0 m 0 ls [])
  generalize hAr : (([.ref (ad (0))] : List Value)).toArray = args9 at *
  generalize hQ : MQ below (va_Qv (fun u : (Nat → Nat) × (Nat → va_E) => (∀ i, i < M → u.1 i = ad i) ∧ (fun u => Dk ty u.1 u.2 g0) u) (fun u => pAt D classes (tysL ty) u.1 (M + 97) (pA ad M s.heap.size) u.2) (pA ad M s.heap.size)) args9 s (97) (4516) (pA ad M s.heap.size) = Q
  obtain ⟨H, hH⟩ : ∃ H, H = s.heap := ⟨_, rfl⟩
  obtain ⟨locs, hlo⟩ : ∃ z : List Loc, z = [] := ⟨_, rfl⟩
  have hw : pw D classes (tysL ty) ad M F (pA ad M s.heap.size) s H locs := by rw [hH, hlo]; exact hw
  generalize hA9 : pA ad M s.heap.size = A9 at hw
  have hgo : W p l e ({ frames := 4, cells := 97, slots := 4516, locals := 88 } : Room) s m args9 below meth c H locs 0 0 Q (F0 m 0 ls []) := by
    obtain ⟨ad0, had0⟩ : ∃ x, x = ad := ⟨_, rfl⟩
    obtain ⟨M0, hM0⟩ : ∃ x, x = M := ⟨_, rfl⟩
    refine lv_aload_n hx hb d_K_init_0 rfl (lv_at hl 0 rfl) ?_
    refine W.objInit hx hb hown (hq _ ml_K_1) (hq _ im_obj) (hq _ m_obj) rfl (by rw [hml]; exact hl.1) rfl d_K_init_1 (Nat.le_of_ble_eq_true rfl) (Nat.le_of_ble_eq_true rfl) ?_
    refine W.eq (g2 := F0 m 4 ls []) rfl ?_
    refine lv_aload_n hx hb d_K_init_4 rfl (lv_at hl 0 rfl) ?_
    refine wz_bipush (n := 16) hx hb d_K_init_5 (by decide) ?_
    refine pw_newq (N' := 16) hx hb hown (hq _ cl_K_9) hAO hw (k := 2) rfl (iI_nn (by omega) (by omega)) (by decide) (Nat.le_of_ble_eq_true rfl) (Nat.le_of_ble_eq_true rfl) (Nat.le_of_ble_eq_true rfl) d_K_init_7 (j := 1) (by omega) (fun ad M F7 H ead7 eM7 eF7 hw => ?_)
    have m7_1 : F7 (1) = .inl (ty 2, 16, .inr (.inr (.inr (.inr (fun _ => none))))) := by rw [eF7]; exact va_up_self ..
    have hl : lv_has ls 2 [(0, .ref (ad (0)))] := by rw [ead7 (0) (by omega)]; exact hl
    rw [← ead7 (0) (by omega)]
    have h0_at_7 : F7 (0) = .inr (5, [.null, .null, .null, .int (iI (0))]) := by exact (show F7 (0) = F (0) from by rw [eF7]; exact va_up_ne _ _ (by omega)).trans h0
    refine pw_putF (ci := 5) (C := R_K) (T := T_K) (N := 4) (ty := (.array (.object "FractionDesk$Fraction"))) (fs' := [.ref (ad (1)), .null, .null, .int (iI (0))]) hx hb hq i_K ft_K ft_K_ok n_K hown hw (by omega) h0_at_7 rfl 0 (by decide) (hq _ fl_K_11) (fun _ h9 => h9) rfl hin rfl (by decide +kernel) rfl rfl (Nat.le_of_ble_eq_true rfl) rfl d_K_init_10 (fun F10 H locs eF10 hw => ?_)
    have m10_0 : F10 (0) = .inr (5, [.ref (ad (1)), .null, .null, .int (iI (0))]) := by rw [eF10]; exact va_up_self ..
    have m7_1_at_10 : F10 (1) = .inl (ty 2, 16, .inr (.inr (.inr (.inr (fun _ => none))))) := (show F10 (1) = F7 (1) from by rw [eF10]; exact va_up_ne _ _ (by omega)).trans m7_1
    refine wz_iconst (n := 0) hx hb d_K_init_13 ?_
    refine lv_istore_n (lv' := [(1, .int (iI (0))), (0, .ref (ad (0)))]) hx hb d_K_init_14 rfl hl (by decide) rfl (fun ls hl => ?_)
    have K15 : ∀ (fuel : Nat) (i cn sn : Nat) (ad : Nat → Nat) (M : Nat) (q9 : Nat → Option Nat) (F15 : Nat → va_E) (H : Heap) (locs : List Loc) (ls : Array Slot), 16 - i < fuel → (i ≤ 16) → (cn = 1 + 5 * i) → (sn = 16 + 141 * i) → (M = 2 + 5 * i) → (∀ k, k < i → q9 k = some (ad (2 + 5 * k))) → (∀ k, k < M0 → ad k = ad0 k) → F15 (0) = .inr (5, [.ref (ad (1)), .null, .null, .int (iI (0))]) → F15 (1) = .inl (ty 2, 16, .inr (.inr (.inr (.inr (q9))))) → RgK ty ad F15 (i) → pw D classes (tysL ty) ad M F15 A9 s H locs → lv_has ls 2 [(0, .ref (ad (0))), (1, .int (iI ((i : Int))))] → W p l e ({ frames := 4, cells := 97, slots := 4516, locals := 88 } : Room) s m args9 below meth c H locs cn sn Q (F0 m 15 ls []) := by
      intro fuel
      induction fuel with
      | zero => intro i cn sn ad M q9 F15 H locs ls hfuel hi hcn hsn hM9 hq9 had h0 h1 hRk hw hl; exact absurd hfuel (Nat.not_lt_zero _)
      | succ fuel ih15 =>
        intro i cn sn ad M q9 F15 H locs ls hfuel hi hcn hsn hM9 hq9 had h0 h1 hRk hw hl
        refine lv_iload_n hx hb d_K_init_15 rfl (lv_at hl 1 rfl) ?_
        refine wz_bipush (n := 16) hx hb d_K_init_16 (by decide) ?_
        refine wz_icmp_ge (tgt := 40) hx hb d_K_init_18 (by decide) (by omega) (by omega) (by omega) (by omega) (fun c18 => ?_) (fun c18 => ?_)
        · refine lv_aload_n hx hb d_K_init_40 rfl (lv_at hl 0 rfl) ?_
          refine pw_new (ci := 4) (fs := [.null, .null, .null, .null, .null, .null, .int (iI (0))]) (C := R_B) (T := T_B) (N := 7) hx hb hq i_B ft_B ft_B_ok hown (hq _ cl_K_16) (hq _ ia_B) (hq _ in_B) hw rfl (fun j hj => by rcases (show j = 0 ∨ j = 1 ∨ j = 2 ∨ j = 3 ∨ j = 4 ∨ j = 5 ∨ j = 6 by omega) with rfl | rfl | rfl | rfl | rfl | rfl | rfl <;> rfl) (by show cn + 1 ≤ 97; omega) (by show sn + 7 ≤ 4516; omega) d_K_init_41 (j := 82) (by omega) (fun ad M F41 H ead41 eM41 eF41 hw => ?_)
          have m41_82 : F41 (82) = .inr (4, [.null, .null, .null, .null, .null, .null, .int (iI (0))]) := by rw [eF41]; exact va_up_self ..
          have hl : lv_has ls 2 [(0, .ref (ad (0))), (1, .int (iI ((i : Int))))] := by rw [ead41 (0) (by omega)]; exact hl
          rw [← ead41 (0) (by omega)]
          have h0_at_41 : F41 (0) = .inr (5, [.ref (ad (1)), .null, .null, .int (iI (0))]) := by rw [ead41 (1) (by omega)]; exact (show F41 (0) = F15 (0) from by rw [eF41]; exact va_up_ne _ _ (by omega)).trans h0
          have h1_at_41 : F41 (1) = .inl (ty 2, 16, .inr (.inr (.inr (.inr (q9))))) := by exact (show F41 (1) = F15 (1) from by rw [eF41]; exact va_up_ne _ _ (by omega)).trans h1
          have hRk_at_41 : RgK ty ad F41 (i) := hRk.ad (fun y8 h7 h8 => show F41 (y8) = F15 (y8) from by rw [eF41]; exact va_up_ne _ _ (by omega)) (fun y8 h7 h8 => ead41 y8 (by omega))
          have hq9 : ∀ k, k < i → q9 k = some (ad (2 + 5 * k)) := fun k9 h9 => by rw [ead41 _ (by omega)]; exact hq9 k9 h9
          refine lv_dup hx hb d_K_init_44 rfl ?_
          refine pw_calln hw (va_runI (As := []) (rest := [.ref (ad (82)), .ref (ad (0))]) ⟨hx, hb, hml, hown, hq⟩ (c_B_init l D ty ad M F41 H.size (by omega) m41_82) (cwI 0 hq (gT m_B_init) rfl rfl rfl (hq _ in_B) (hq _ ml_K_18) (hq _ im_B_init) rfl (by decide +kernel) ⟨Nat.le_of_ble_eq_true rfl, Nat.le_of_ble_eq_true rfl⟩) (pw_preS hw) rfl rfl hl.1 rfl (lv_room (Nat.le_of_ble_eq_true rfl)) d_K_init_45 ⟨by show cn + 1 + 13 ≤ 97; omega, by show sn + 7 + 833 ≤ 4516; omega⟩) (fun ad M F45 H locs ead45 eM45 q45 hw => ?_)
          dsimp only at q45
          obtain ⟨hBn, hf45⟩ := q45
          have hq9 : ∀ k, k < i → q9 k = some (ad (2 + 5 * k)) := fun k9 h9 => by rw [ead45 _ (by omega)]; exact hq9 k9 h9
          have hl : lv_has ls 2 [(0, .ref (ad (0))), (1, .int (iI ((i : Int))))] := by rw [ead45 (0) (by omega)]; exact hl
          rw [← ead45 (82) (by omega)]
          rw [← ead45 (0) (by omega)]
          have h0_at_45 : F45 (0) = .inr (5, [.ref (ad (1)), .null, .null, .int (iI (0))]) := by rw [ead45 (1) (by omega)]; exact (hf45 (0) (by omega)).trans h0_at_41
          have h1_at_45 : F45 (1) = .inl (ty 2, 16, .inr (.inr (.inr (.inr (q9))))) := by exact (hf45 (1) (by omega)).trans h1_at_41
          have hRk_at_45 : RgK ty ad F45 (i) := hRk_at_41.ad (fun y8 h7 h8 => hf45 (y8) (by omega)) (fun y8 h7 h8 => ead45 y8 (by omega))
          refine pw_putF (ci := 5) (C := R_K) (T := T_K) (N := 4) (ty := (.object "FractionDesk$Bench")) (fs' := [.ref (ad (1)), .ref (ad (82)), .null, .int (iI (0))]) hx hb hq i_K ft_K ft_K_ok n_K hown hw (by omega) h0_at_45 rfl 1 (by decide) (hq _ fl_K_19) (fun _ h9 => h9) rfl hin rfl (by decide +kernel) rfl rfl (Nat.le_of_ble_eq_true rfl) rfl d_K_init_48 (fun F48 H locs eF48 hw => ?_)
          have m48_0 : F48 (0) = .inr (5, [.ref (ad (1)), .ref (ad (82)), .null, .int (iI (0))]) := by rw [eF48]; exact va_up_self ..
          have h1_at_48 : F48 (1) = .inl (ty 2, 16, .inr (.inr (.inr (.inr (q9))))) := (show F48 (1) = F45 (1) from by rw [eF48]; exact va_up_ne _ _ (by omega)).trans h1_at_45
          have hRk_at_48 : RgK ty ad F48 (i) := hRk_at_45.mv (fun y8 h7 h8 => show F48 (y8) = F45 (y8) from by rw [eF48]; exact va_up_ne _ _ (by omega))
          have hBn_at_48 : Bn ty ad F48 := hBn.mv (fun y8 h7 h8 => show F48 (y8) = F45 (y8) from by rw [eF48]; exact va_up_ne _ _ (by omega))
          refine lv_aload_n hx hb d_K_init_51 rfl (lv_at hl 0 rfl) ?_
          refine pw_new (ci := 2) (fs := [.null, .int (iI (0))]) (C := R_T) (T := T_T) (N := 2) hx hb hq i_T ft_T ft_T_ok hown (hq _ cl_K_23) (hq _ ia_T) (hq _ in_T) hw rfl (fun j hj => by rcases (show j = 0 ∨ j = 1 by omega) with rfl | rfl <;> rfl) (by show cn + 1 + 13 + 1 ≤ 97; omega) (by show sn + 7 + 833 + 2 ≤ 4516; omega) d_K_init_52 (j := 96) (by omega) (fun ad M F52 H ead52 eM52 eF52 hw => ?_)
          have m52_96 : F52 (96) = .inr (2, [.null, .int (iI (0))]) := by rw [eF52]; exact va_up_self ..
          have hl : lv_has ls 2 [(0, .ref (ad (0))), (1, .int (iI ((i : Int))))] := by rw [ead52 (0) (by omega)]; exact hl
          rw [← ead52 (0) (by omega)]
          have h1_at_52 : F52 (1) = .inl (ty 2, 16, .inr (.inr (.inr (.inr (q9))))) := by exact (show F52 (1) = F48 (1) from by rw [eF52]; exact va_up_ne _ _ (by omega)).trans h1_at_48
          have hRk_at_52 : RgK ty ad F52 (i) := hRk_at_48.ad (fun y8 h7 h8 => show F52 (y8) = F48 (y8) from by rw [eF52]; exact va_up_ne _ _ (by omega)) (fun y8 h7 h8 => ead52 y8 (by omega))
          have hBn_at_52 : Bn ty ad F52 := hBn_at_48.ad (fun y8 h7 h8 => show F52 (y8) = F48 (y8) from by rw [eF52]; exact va_up_ne _ _ (by omega)) (fun y8 h7 h8 => ead52 y8 (by omega))
          have m48_0_at_52 : F52 (0) = .inr (5, [.ref (ad (1)), .ref (ad (82)), .null, .int (iI (0))]) := by rw [ead52 (1) (by omega), ead52 (82) (by omega)]; exact (show F52 (0) = F48 (0) from by rw [eF52]; exact va_up_ne _ _ (by omega)).trans m48_0
          have hq9 : ∀ k, k < i → q9 k = some (ad (2 + 5 * k)) := fun k9 h9 => by rw [ead52 _ (by omega)]; exact hq9 k9 h9
          refine lv_dup hx hb d_K_init_55 rfl ?_
          refine pw_calln hw (va_runI (As := []) (rest := [.ref (ad (96)), .ref (ad (0))]) ⟨hx, hb, hml, hown, hq⟩ (c_T_init l D ty ad M F52 H.size (by omega) m52_96) (cwI 0 hq (gT m_T_init) rfl rfl rfl (hq _ in_T) (hq _ ml_K_25) (hq _ im_T_init) rfl (by decide +kernel) ⟨Nat.le_of_ble_eq_true rfl, Nat.le_of_ble_eq_true rfl⟩) (pw_preS hw) rfl rfl hl.1 rfl (lv_room (Nat.le_of_ble_eq_true rfl)) d_K_init_56 ⟨by show cn + 1 + 13 + 1 + 1 ≤ 97; omega, by show sn + 7 + 833 + 2 + 1400 ≤ 4516; omega⟩) (fun ad M F56 H locs ead56 eM56 q56 hw => ?_)
          dsimp only at q56
          obtain ⟨hTx, hf56⟩ := q56
          have hq9 : ∀ k, k < i → q9 k = some (ad (2 + 5 * k)) := fun k9 h9 => by rw [ead56 _ (by omega)]; exact hq9 k9 h9
          have hl : lv_has ls 2 [(0, .ref (ad (0))), (1, .int (iI ((i : Int))))] := by rw [ead56 (0) (by omega)]; exact hl
          rw [← ead56 (96) (by omega)]
          rw [← ead56 (0) (by omega)]
          have h1_at_56 : F56 (1) = .inl (ty 2, 16, .inr (.inr (.inr (.inr (q9))))) := by exact (hf56 (1) (by omega)).trans h1_at_52
          have hRk_at_56 : RgK ty ad F56 (i) := hRk_at_52.ad (fun y8 h7 h8 => hf56 (y8) (by omega)) (fun y8 h7 h8 => ead56 y8 (by omega))
          have hBn_at_56 : Bn ty ad F56 := hBn_at_52.ad (fun y8 h7 h8 => hf56 (y8) (by omega)) (fun y8 h7 h8 => ead56 y8 (by omega))
          have m48_0_at_56 : F56 (0) = .inr (5, [.ref (ad (1)), .ref (ad (82)), .null, .int (iI (0))]) := by rw [ead56 (1) (by omega), ead56 (82) (by omega)]; exact (hf56 (0) (by omega)).trans m48_0_at_52
          refine pw_putF (ci := 5) (C := R_K) (T := T_K) (N := 4) (ty := (.object "FractionDesk$Text")) (fs' := [.ref (ad (1)), .ref (ad (82)), .ref (ad (96)), .int (iI (0))]) hx hb hq i_K ft_K ft_K_ok n_K hown hw (by omega) m48_0_at_56 rfl 2 (by decide) (hq _ fl_K_26) (fun _ h9 => h9) rfl hin rfl (by decide +kernel) rfl rfl (Nat.le_of_ble_eq_true rfl) rfl d_K_init_59 (fun F59 H locs eF59 hw => ?_)
          have m59_0 : F59 (0) = .inr (5, [.ref (ad (1)), .ref (ad (82)), .ref (ad (96)), .int (iI (0))]) := by rw [eF59]; exact va_up_self ..
          have h1_at_59 : F59 (1) = .inl (ty 2, 16, .inr (.inr (.inr (.inr (q9))))) := (show F59 (1) = F56 (1) from by rw [eF59]; exact va_up_ne _ _ (by omega)).trans h1_at_56
          have hRk_at_59 : RgK ty ad F59 (i) := hRk_at_56.mv (fun y8 h7 h8 => show F59 (y8) = F56 (y8) from by rw [eF59]; exact va_up_ne _ _ (by omega))
          have hBn_at_59 : Bn ty ad F59 := hBn_at_56.mv (fun y8 h7 h8 => show F59 (y8) = F56 (y8) from by rw [eF59]; exact va_up_ne _ _ (by omega))
          have hTx_at_59 : Tx ty ad F59 0 (fun _ => 0) := hTx.mv (show F59 (96) = F56 (96) from by rw [eF59]; exact va_up_ne _ _ (by omega)) (show F59 (97) = F56 (97) from by rw [eF59]; exact va_up_ne _ _ (by omega))
          refine lv_aload_n hx hb d_K_init_62 rfl (lv_at hl 0 rfl) ?_
          refine wz_iconst (n := -1) hx hb d_K_init_63 ?_
          refine pw_put (ci := 5) (C := R_K) (T := T_K) (N := 4) (ty := .int) (fs' := [.ref (ad (1)), .ref (ad (82)), .ref (ad (96)), .int (iI (-1))]) hx hb hq i_K ft_K ft_K_ok n_K hown hw (by omega) m59_0 rfl 3 (by decide) (hq _ fl_K_30) (fun _ h9 => h9) rfl (by decide +kernel) rfl rfl (Nat.le_of_ble_eq_true rfl) rfl d_K_init_64 (fun F64 H locs eF64 hw => ?_)
          have m64_0 : F64 (0) = .inr (5, [.ref (ad (1)), .ref (ad (82)), .ref (ad (96)), .int (iI (-1))]) := by rw [eF64]; exact va_up_self ..
          have h1_at_64 : F64 (1) = .inl (ty 2, 16, .inr (.inr (.inr (.inr (q9))))) := (show F64 (1) = F59 (1) from by rw [eF64]; exact va_up_ne _ _ (by omega)).trans h1_at_59
          have hRk_at_64 : RgK ty ad F64 (i) := hRk_at_59.mv (fun y8 h7 h8 => show F64 (y8) = F59 (y8) from by rw [eF64]; exact va_up_ne _ _ (by omega))
          have hBn_at_64 : Bn ty ad F64 := hBn_at_59.mv (fun y8 h7 h8 => show F64 (y8) = F59 (y8) from by rw [eF64]; exact va_up_ne _ _ (by omega))
          have hTx_at_64 : Tx ty ad F64 0 (fun _ => 0) := hTx_at_59.mv (show F64 (96) = F59 (96) from by rw [eF64]; exact va_up_ne _ _ (by omega)) (show F64 (97) = F59 (97) from by rw [eF64]; exact va_up_ne _ _ (by omega))
          rw [← hQ]
          rw [← hA9] at hw
          refine W.widen (k := 97) (n := 4516) (by omega) (by omega) ?_
          exact pw_nret hx hb hr hlocks hw (by omega) (fun i9 h9 => (ead56 i9 (by omega)).trans ((ead52 i9 (by omega)).trans ((ead45 i9 (by omega)).trans ((ead41 i9 (by omega)).trans ((had i9 (by omega)).trans (by rw [had0])))))) (⟨m64_0, ⟨⟨_, h1_at_64, fun k9 h9 => hq9 k9 (by omega)⟩, fun k9 h9 => hRk_at_64 k9 (by omega)⟩, hBn_at_64, hTx_at_64⟩) d_K_init_67
        · refine lv_aload_n hx hb d_K_init_21 rfl (lv_at hl 0 rfl) ?_
          refine pw_get (ci := 5) (C := R_K) (T := T_K) (N := 4) hx hb hq i_K hown hw (by omega) h0 rfl 0 (by decide) (hq _ fl_K_11) (fun _ h9 => h9) rfl d_K_init_22 ?_
          refine lv_iload_n hx hb d_K_init_25 rfl (lv_at hl 1 rfl) ?_
          refine pw_new (ci := 1) (fs := [.null, .null, .int (iI (0))]) (C := R_F) (T := T_F) (N := 3) hx hb hq i_F ft_F ft_F_ok hown (hq _ cl_K_9) (hq _ ia_F) (hq _ in_F) hw rfl (fun j hj => by rcases (show j = 0 ∨ j = 1 ∨ j = 2 by omega) with rfl | rfl | rfl <;> rfl) (by show cn + 1 ≤ 97; omega) (by show sn + 3 ≤ 4516; omega) d_K_init_26 (j := 2 + 5 * i) (by omega) (fun ad M F26 H ead26 eM26 eF26 hw => ?_)
          have m26_25i : F26 (2 + 5 * i) = .inr (1, [.null, .null, .int (iI (0))]) := by rw [eF26]; exact va_up_self ..
          have hl : lv_has ls 2 [(0, .ref (ad (0))), (1, .int (iI ((i : Int))))] := by rw [ead26 (0) (by omega)]; exact hl
          rw [← ead26 (1) (by omega)]
          have h0_at_26 : F26 (0) = .inr (5, [.ref (ad (1)), .null, .null, .int (iI (0))]) := by rw [ead26 (1) (by omega)]; exact (show F26 (0) = F15 (0) from by rw [eF26]; exact va_up_ne _ _ (by omega)).trans h0
          have h1_at_26 : F26 (1) = .inl (ty 2, 16, .inr (.inr (.inr (.inr (q9))))) := by exact (show F26 (1) = F15 (1) from by rw [eF26]; exact va_up_ne _ _ (by omega)).trans h1
          have hRk_at_26 : RgK ty ad F26 (i) := hRk.ad (fun y8 h7 h8 => show F26 (y8) = F15 (y8) from by rw [eF26]; exact va_up_ne _ _ (by omega)) (fun y8 h7 h8 => ead26 y8 (by omega))
          have hq9 : ∀ k, k < i → q9 k = some (ad (2 + 5 * k)) := fun k9 h9 => by rw [ead26 _ (by omega)]; exact hq9 k9 h9
          refine lv_dup hx hb d_K_init_29 rfl ?_
          refine pw_calln hw (va_runI (As := []) (rest := [.ref (ad (2 + 5 * i)), .int (iI ((i : Int))), .ref (ad (1))]) ⟨hx, hb, hml, hown, hq⟩ (c_F_init l D ty ad M F26 H.size (2 + 5 * i) (by omega) m26_25i) (cwI 0 hq (gT m_F_init) rfl rfl rfl (hq _ in_F) (hq _ ml_K_15) (hq _ im_F_init) rfl (by decide +kernel) ⟨Nat.le_of_ble_eq_true rfl, Nat.le_of_ble_eq_true rfl⟩) (pw_preS hw) rfl rfl hl.1 rfl (lv_room (Nat.le_of_ble_eq_true rfl)) d_K_init_30 ⟨by show cn + 1 + 4 ≤ 97; omega, by show sn + 3 + 138 ≤ 4516; omega⟩) (fun ad M F30 H locs ead30 eM30 q30 hw => ?_)
          dsimp only at q30
          obtain ⟨f30, w30a, w30b, hf30⟩ := q30
          have hq9 : ∀ k, k < i → q9 k = some (ad (2 + 5 * k)) := fun k9 h9 => by rw [ead30 _ (by omega)]; exact hq9 k9 h9
          have hl : lv_has ls 2 [(0, .ref (ad (0))), (1, .int (iI ((i : Int))))] := by rw [ead30 (0) (by omega)]; exact hl
          rw [← ead30 (2 + 5 * i) (by omega)]
          rw [← ead30 (1) (by omega)]
          have h0_at_30 : F30 (0) = .inr (5, [.ref (ad (1)), .null, .null, .int (iI (0))]) := by rw [ead30 (1) (by omega)]; exact (hf30 (0) (by omega)).trans h0_at_26
          have h1_at_30 : F30 (1) = .inl (ty 2, 16, .inr (.inr (.inr (.inr (q9))))) := by exact (hf30 (1) (by omega)).trans h1_at_26
          have hRk_at_30 : RgK ty ad F30 (i) := hRk_at_26.ad (fun y8 h7 h8 => hf30 (y8) (by omega)) (fun y8 h7 h8 => ead30 y8 (by omega))
          refine pw_astq (k := i) hx hb hw 2 (by omega) h1_at_30 rfl (by omega) f30 rfl (iI_in (by omega) (by omega) (by omega)) ((iI_cl (by omega) (by omega)).trans (by omega)) d_K_init_33 (fun F33 H locs eF33 hw => ?_)
          have m33_1 : F33 (1) = .inl (ty 2, 16, .inr (.inr (.inr (.inr (va_up (q9) (i) (some (ad (2 + 5 * i)))))))) := by rw [eF33]; exact va_up_self ..
          have h0_at_33 : F33 (0) = .inr (5, [.ref (ad (1)), .null, .null, .int (iI (0))]) := (show F33 (0) = F30 (0) from by rw [eF33]; exact va_up_ne _ _ (by omega)).trans h0_at_30
          have hRk_at_33 : RgK ty ad F33 (i) := hRk_at_30.mv (fun y8 h7 h8 => show F33 (y8) = F30 (y8) from by rw [eF33]; exact va_up_ne _ _ (by omega))
          have f30_at_33 : F33 (2 + 5 * i) = .inr (1, [.ref (ad (2 + 5 * i + 1)), .ref (ad (2 + 5 * i + 3)), .int (iI (0))]) := (show F33 (2 + 5 * i) = F30 (2 + 5 * i) from by rw [eF33]; exact va_up_ne _ _ (by omega)).trans f30
          have w30a_at_33 : Wv ty ad F33 (2 + 5 * i + 1) 67 (0) := Wv.mv w30a (show F33 (2 + 5 * i + 1) = F30 (2 + 5 * i + 1) from by rw [eF33]; exact va_up_ne _ _ (by omega)) (show F33 (2 + 5 * i + 1 + 1) = F30 (2 + 5 * i + 1 + 1) from by rw [eF33]; exact va_up_ne _ _ (by omega))
          have w30b_at_33 : Wv ty ad F33 (2 + 5 * i + 3) 67 (1) := Wv.mv w30b (show F33 (2 + 5 * i + 3) = F30 (2 + 5 * i + 3) from by rw [eF33]; exact va_up_ne _ _ (by omega)) (show F33 (2 + 5 * i + 3 + 1) = F30 (2 + 5 * i + 3 + 1) from by rw [eF33]; exact va_up_ne _ _ (by omega))
          refine wz_iinc (z := ((i + 1 : Nat) : Int)) (lv' := [(1, .int (iI (((i + 1 : Nat) : Int)))), (0, .ref (ad (0)))]) hx hb d_K_init_34 hl (k := 1) rfl (by omega) (by decide) rfl (fun ls hl => ?_)
          refine lv_goto (tgt := 15) hx hb d_K_init_37 (by decide) ?_
          exact ih15 (i + 1) _ _ ad M (va_up q9 i (some (ad (2 + 5 * i)))) _ _ _ ls (by omega) (by omega) (by omega) (by omega) (by omega) (fun k9 h9 => by
            by_cases h8 : k9 = i
            · rw [h8, va_up_self]
            · rw [va_up_ne _ _ h8]; exact hq9 k9 (by omega)) (fun k9 h9 => (ead30 k9 (by omega)).trans ((ead26 k9 (by omega)).trans (had k9 h9))) (h0_at_33) (m33_1) (hRk_at_33.add (frz_new f30_at_33 w30a_at_33 w30b_at_33)) hw (lv_sub hl [1, 0] rfl)
    exact K15 _ 0 _ _ ad M (fun _ => none) _ _ _ ls (Nat.lt_succ_self _) (by omega) (by omega) (by omega) (by omega) (fun k hk => absurd hk (by omega)) (fun k9 h9 => by rw [had0]; exact ead7 k9 (by omega)) (m10_0) (m7_1_at_10) (fun k hk => absurd hk (by omega)) hw (lv_sub hl [1, 0] rfl)
  rw [hH, hlo] at hgo
  exact hgo
