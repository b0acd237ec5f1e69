/-! Whole, its small methods: by program -/
set_option maxHeartbeats 4000000 in
set_option maxRecDepth 100000 in
/-- Whole.trim(len): the size becomes the number of limbs below len without the zeros on top -/
theorem c_W_trim (l : Launch) (D : va_G) (ty : Nat → ClassId) (ad : Nat → Nat) (M : Nat) (F : Nat → va_E) (sz : Nat) (w N len : Nat) (n : Int) (g : Nat → Int32) (hM : w + 1 < M) (hN : N < 1000) (hlen : len ≤ N) (hO_w : F (w) = .inr (0, [.ref (ad (w + 1)), .int (iI (n))])) (hA_w : F (w + 1) = .inl (ty 0, N, .inl (g))) :
    CV l y_W_trim w_W_trim ({ frames := 1, cells := 0, slots := 0, locals := 24 } : Room) [.ref (ad (w)), .int (iI ((len : Int)))] D ty ad M F sz (fun F1 => ∃ k : Nat, k ≤ len ∧ (∀ i, k ≤ i → i < len → g i = 0) ∧ (k = 0 ∨ g (k - 1) ≠ 0) ∧ F1 = va_up F w (oW ad w k)) := by
  refine Met.ofW (cc := b_W_trim) (maxL := 3) (ret := none) (by decide) rfl ?_
  intro p e s m args below meth c s₁ B hml hv
  obtain ⟨rfl, hsz, hP, hK, hD0⟩ := hv
  have hx := B.exec
  have hb := B.bytes
  have hr := B.returns
  have hts := atoms_spec (ws := w_W_trim) B.pre
  have hq : ∀ w ∈ wT, w.before _ s = true := fun w h => hts w (List.mem_cons_of_mem _ h)
  have hown : s.vm.findClass R_W = some m.cls := findClass_of_methodNamed B.named
  have hlocks := B.notSynchronized
  subst hsz
  have hw := pw_start hP hK hD0
  have hl := lv_entry ([.ref (ad (w)), .int (iI ((len : Int)))]) (n := 3) (Nat.le_of_ble_eq_true rfl)
  rw [lg_entry_eq]
  generalize (lg_sl ([.ref (ad (w)), .int (iI ((len : Int)))]) ++ List.replicate (3 - (lg_sl ([.ref (ad (w)), .int (iI ((len : Int)))])).length) Slot.unset).toArray = ls at hl ⊢
  have hl : lv_has ls 3 [(0, .ref (ad (w))), (1, .int (iI ((len : Int))))] := hl
  change W p l e ({ frames := 1, cells := 0, slots := 0, locals := 24 } : Room) s m ([.ref (ad (w)), .int (iI ((len : Int)))]).toArray below meth c s.heap [] 0 0 (MQ below (va_Qv (fun F1 => ∃ k : Nat, k ≤ len ∧ (∀ i, k ≤ i → i < len → g i = 0) ∧ (k = 0 ∨ g (k - 1) ≠ 0) ∧ F1 = va_up F w (oW ad w k)) (pAt D classes (tysL ty) ad M (pA ad M s.heap.size)) (pA ad M s.heap.size)) ([.ref (ad (w)), .int (iI ((len : Int)))]).toArray s 0 0 (pA ad M s.heap.size)) (F0 m 0 ls [])
  generalize hQ : MQ below (va_Qv (fun F1 => ∃ k : Nat, k ≤ len ∧ (∀ i, k ≤ i → i < len → g i = 0) ∧ (k = 0 ∨ g (k - 1) ≠ 0) ∧ F1 = va_up F w (oW ad w k)) (pAt D classes (tysL ty) ad M (pA ad M s.heap.size)) (pA ad M s.heap.size)) ([.ref (ad (w)), .int (iI ((len : Int)))]).toArray s 0 0 (pA ad M s.heap.size) = Q
  obtain ⟨H, hH⟩ : ∃ H, H = s.heap := ⟨_, rfl⟩
  obtain ⟨locs, hlo⟩ : ∃ z : List Loc, z = [] := ⟨_, rfl⟩
  have hw : pw D classes (tysL ty) ad M F (pA ad M s.heap.size) s H locs := by rw [hH, hlo]; exact hw
  have hgo : W p l e ({ frames := 1, cells := 0, slots := 0, locals := 24 } : Room) s m ([.ref (ad (w)), .int (iI ((len : Int)))]).toArray below meth c H locs 0 0 Q (F0 m 0 ls []) := by
    refine lv_iload_n hx hb d_W_trim_0 rfl (lv_at hl 1 rfl) ?_
    refine lv_aload_n hx hb d_W_trim_1 rfl (lv_at hl 0 rfl) ?_
    refine pw_get (ci := 0) (C := R_W) (T := T_W) (N := 2) hx hb hq i_W hown hw (by omega) hO_w rfl 0 (by decide) (hq _ fl_W_17) (fun _ h9 => h9) rfl d_W_trim_2 ?_
    refine pw_alen (v := iI ((N : Nat) : Int)) hx hb hw 0 (by omega) hA_w rfl (iI_nat _).symm d_W_trim_5 ?_
    refine wz_mmin (z := (len : Int)) hx hb (hml.trans hl.1.symm) hown (hq _ ml_W_45) (hq _ st_JM_min) (hq _ in_JM) (hq _ m_JM_min) (Nat.le_of_ble_eq_true rfl) (Nat.le_of_ble_eq_true rfl) (Nat.zero_le _) (Nat.zero_le _) (by omega) (by omega) (by omega) (by omega) (by omega) d_W_trim_6 ?_
    refine lv_istore_n (lv' := [(2, .int (iI ((len : Int)))), (0, .ref (ad (w))), (1, .int (iI ((len : Int))))]) hx hb d_W_trim_9 rfl hl (by decide) rfl (fun ls hl => ?_)
    have K10 : ∀ (fuel : Nat) (k : Nat) (ls : Array Slot), k < fuel → (k ≤ len) → (∀ i, k ≤ i → i < len → g i = 0) → lv_has ls 3 [(2, .int (iI ((k : Int)))), (0, .ref (ad (w))), (1, .int (iI ((len : Int))))] → W p l e ({ frames := 1, cells := 0, slots := 0, locals := 24 } : Room) s m ([.ref (ad (w)), .int (iI ((len : Int)))]).toArray below meth c H locs 0 0 Q (F0 m 10 ls []) := by
      intro fuel
      induction fuel with
      | zero => intro k ls hfuel hk hz hl; exact absurd hfuel (Nat.not_lt_zero _)
      | succ fuel ih10 =>
        intro k ls hfuel hk hz hl
        refine lv_iload_n hx hb d_W_trim_10 rfl (lv_at hl 0 rfl) ?_
        refine wz_if_le (tgt := 31) hx hb d_W_trim_11 (by decide) (by omega) (by omega) (fun c11 => ?_) (fun c11 => ?_)
        · have hk0 : k = 0 := by omega
          refine lv_aload_n hx hb d_W_trim_31 rfl (lv_at hl 1 rfl) ?_
          refine lv_iload_n hx hb d_W_trim_32 rfl (lv_at hl 0 rfl) ?_
          refine wz_iconst (n := 0) hx hb d_W_trim_33 ?_
          refine wz_mmax (z := (k : Int)) hx hb (hml.trans hl.1.symm) hown (hq _ ml_W_11) (hq _ st_JM_max) (hq _ in_JM) (hq _ m_JM_max) (Nat.le_of_ble_eq_true rfl) (Nat.le_of_ble_eq_true rfl) (Nat.zero_le _) (Nat.zero_le _) (by omega) (by omega) (by omega) (by omega) (by omega) d_W_trim_34 ?_
          refine pw_put (ci := 0) (C := R_W) (T := T_W) (N := 2) (ty := .int) (fs' := [.ref (ad (w + 1)), .int (iI ((k : Int)))]) hx hb hq i_W ft_W ft_W_ok n_W hown hw (by omega) hO_w rfl 1 (by decide) (hq _ fl_W_21) (fun _ h9 => h9) rfl (by decide +kernel) rfl rfl (Nat.le_of_ble_eq_true rfl) rfl d_W_trim_37 (fun F37 H locs eF37 hw => ?_)
          have m37_w : F37 (w) = .inr (0, [.ref (ad (w + 1)), .int (iI ((k : Int)))]) := by rw [eF37]; exact va_up_self ..
          have hA_w_at_37 : F37 (w + 1) = .inl (ty 0, N, .inl (g)) := (show F37 (w + 1) = F (w + 1) from by rw [eF37]; exact va_up_ne _ _ (by omega)).trans hA_w
          rw [← hQ]
          exact pw_vret hx hb hr hlocks hw (⟨k, hk, hz, by first | exact Or.inl hk0 | exact Or.inr c22, eF37⟩) d_W_trim_40
        · have hk0 : 0 < k := by omega
          refine lv_aload_n hx hb d_W_trim_14 rfl (lv_at hl 1 rfl) ?_
          refine pw_get (ci := 0) (C := R_W) (T := T_W) (N := 2) hx hb hq i_W hown hw (by omega) hO_w rfl 0 (by decide) (hq _ fl_W_17) (fun _ h9 => h9) rfl d_W_trim_15 ?_
          refine lv_iload_n hx hb d_W_trim_18 rfl (lv_at hl 0 rfl) ?_
          refine wz_iconst (n := 1) hx hb d_W_trim_19 ?_
          refine wz_isub hx hb d_W_trim_20 rfl ?_
          refine pw_iald (k := k - 1) hx hb hw 0 (by omega) hA_w rfl (iI_in (by omega) (by omega) (by omega)) (by rw [iI_cl (by omega) (by omega)]; omega) d_W_trim_21 ?_
          refine lv_if_ne (tgt := 31) hx hb d_W_trim_22 (by decide) (fun c22 => ?_) (fun c22 => ?_)
          · refine lv_aload_n hx hb d_W_trim_31 rfl (lv_at hl 1 rfl) ?_
            refine lv_iload_n hx hb d_W_trim_32 rfl (lv_at hl 0 rfl) ?_
            refine wz_iconst (n := 0) hx hb d_W_trim_33 ?_
            refine wz_mmax (z := (k : Int)) hx hb (hml.trans hl.1.symm) hown (hq _ ml_W_11) (hq _ st_JM_max) (hq _ in_JM) (hq _ m_JM_max) (Nat.le_of_ble_eq_true rfl) (Nat.le_of_ble_eq_true rfl) (Nat.zero_le _) (Nat.zero_le _) (by omega) (by omega) (by omega) (by omega) (by omega) d_W_trim_34 ?_
            refine pw_put (ci := 0) (C := R_W) (T := T_W) (N := 2) (ty := .int) (fs' := [.ref (ad (w + 1)), .int (iI ((k : Int)))]) hx hb hq i_W ft_W ft_W_ok n_W hown hw (by omega) hO_w rfl 1 (by decide) (hq _ fl_W_21) (fun _ h9 => h9) rfl (by decide +kernel) rfl rfl (Nat.le_of_ble_eq_true rfl) rfl d_W_trim_37 (fun F37 H locs eF37 hw => ?_)
            have m37_w : F37 (w) = .inr (0, [.ref (ad (w + 1)), .int (iI ((k : Int)))]) := by rw [eF37]; exact va_up_self ..
            have hA_w_at_37 : F37 (w + 1) = .inl (ty 0, N, .inl (g)) := (show F37 (w + 1) = F (w + 1) from by rw [eF37]; exact va_up_ne _ _ (by omega)).trans hA_w
            rw [← hQ]
            exact pw_vret hx hb hr hlocks hw (⟨k, hk, hz, by first | exact Or.inl hk0 | exact Or.inr c22, eF37⟩) d_W_trim_40
          · refine wz_iinc (z := ((k - 1 : Nat) : Int)) (lv' := [(2, .int (iI (((k - 1 : Nat) : Int)))), (0, .ref (ad (w))), (1, .int (iI ((len : Int))))]) hx hb d_W_trim_25 hl (k := 0) rfl (by omega) (by decide) rfl (fun ls hl => ?_)
            refine lv_goto (tgt := 10) hx hb d_W_trim_28 (by decide) ?_
            exact ih10 (k - 1) ls (by omega) (by omega) (fun i h1 h2 => by
                    rcases Nat.lt_or_ge i k with h3 | h3
                    · rw [show i = k - 1 by omega]; exact c22
                    · exact hz i h3 h2) hl
    exact K10 _ len ls (Nat.lt_succ_self _) (Nat.le_refl _) (fun i h1 h2 => absurd h2 (by omega)) hl
  rw [hH, hlo] at hgo
  exact hgo
