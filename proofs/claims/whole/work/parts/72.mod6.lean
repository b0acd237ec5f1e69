/-! the reference: common, floor, lay, compare, wholeQuotient, take, rest: by program -/
set_option maxHeartbeats 4000000 in
set_option maxRecDepth 100000 in
/-- common(a, b) -/
theorem c_M_common (l : Launch) (D : va_G) (ty : Nat → ClassId) (ad : Nat → Nat) (M : Nat) (F : Nat → va_E) (sz : Nat) (hM : 103 < M) (co ln wr : Int) (hO : F 98 = oM ad co ln wr) (a b1 : Nat) (za zb : Int) (ha : a < 43) (hb1 : b1 < 43) (hna9 : a < 34 ∨ 38 < a) (hnb9 : b1 < 34 ∨ 38 < b1) (Na : Nm ty F a za) (Nb1 : Nm ty F b1 zb) (hma : md za.natAbs) (hmb : md zb.natAbs) :
    CV l y_M_common w_M_common ({ frames := 3, cells := 0, slots := 0, locals := 84 } : Room) [.ref (ad (98)), .int (iI ((a : Int))), .int (iI ((b1 : Int)))] D ty ad M F sz (fun F1 => Nm ty F1 34 ((Nat.gcd (Int.natAbs za) (Int.natAbs zb) : Nat) : Int) ∧ kp ty F F1 (fun c => c = 34 ∨ c = 35 ∨ c = 36 ∨ c = 37 ∨ c = 38) ∧ frM F F1) := by
  refine Met.ofW (cc := b_M_common) (maxL := 3) (ret := none) (by decide) rfl ?_
  intro p e s m args below meth c s₁ B hml hv
  obtain ⟨rfl, hsz, hP, hK, hD0⟩ := hv
  have hx := B.exec
  have hb := B.bytes
  have hr := B.returns
  have hts := atoms_spec (ws := w_M_common) B.pre
  have hq : ∀ w ∈ wT, w.before _ s = true := fun w h => hts w (List.mem_cons_of_mem _ h)
  have hown : s.vm.findClass R_M = some m.cls := findClass_of_methodNamed B.named
  have hlocks := B.notSynchronized
  subst hsz
  have hw := pw_start hP hK hD0
  have hl := lv_entry ([.ref (ad (98)), .int (iI ((a : Int))), .int (iI ((b1 : Int)))]) (n := 3) (Nat.le_of_ble_eq_true rfl)
  rw [lg_entry_eq]
  generalize (lg_sl ([.ref (ad (98)), .int (iI ((a : Int))), .int (iI ((b1 : Int)))]) ++ List.replicate (3 - (lg_sl ([.ref (ad (98)), .int (iI ((a : Int))), .int (iI ((b1 : Int)))])).length) Slot.unset).toArray = ls at hl ⊢
  have hl : lv_has ls 3 [(0, .ref (ad (98))), (1, .int (iI ((a : Int)))), (2, .int (iI ((b1 : Int))))] := hl
  change W p l e ({ frames := 3, cells := 0, slots := 0, locals := 84 } : Room) s m ([.ref (ad (98)), .int (iI ((a : Int))), .int (iI ((b1 : Int)))]).toArray below meth c s.heap [] 0 0 (MQ below (va_Qv (fun F1 => Nm ty F1 34 ((Nat.gcd (Int.natAbs za) (Int.natAbs zb) : Nat) : Int) ∧ kp ty F F1 (fun c => c = 34 ∨ c = 35 ∨ c = 36 ∨ c = 37 ∨ c = 38) ∧ frM F F1) (pAt D classes (tysL ty) ad M (pA ad M s.heap.size)) (pA ad M s.heap.size)) ([.ref (ad (98)), .int (iI ((a : Int))), .int (iI ((b1 : Int)))]).toArray s 0 0 (pA ad M s.heap.size)) (F0 m 0 ls [])
  generalize hQ : MQ below (va_Qv (fun F1 => Nm ty F1 34 ((Nat.gcd (Int.natAbs za) (Int.natAbs zb) : Nat) : Int) ∧ kp ty F F1 (fun c => c = 34 ∨ c = 35 ∨ c = 36 ∨ c = 37 ∨ c = 38) ∧ frM F F1) (pAt D classes (tysL ty) ad M (pA ad M s.heap.size)) (pA ad M s.heap.size)) ([.ref (ad (98)), .int (iI ((a : Int))), .int (iI ((b1 : Int)))]).toArray s 0 0 (pA ad M s.heap.size) = Q
  obtain ⟨H, hH⟩ : ∃ H, H = s.heap := ⟨_, rfl⟩
  obtain ⟨locs, hlo⟩ : ∃ z : List Loc, z = [] := ⟨_, rfl⟩
  have hw : pw D classes (tysL ty) ad M F (pA ad M s.heap.size) s H locs := by rw [hH, hlo]; exact hw
  have hgo : W p l e ({ frames := 3, cells := 0, slots := 0, locals := 84 } : Room) s m ([.ref (ad (98)), .int (iI ((a : Int))), .int (iI ((b1 : Int)))]).toArray below meth c H locs 0 0 Q (F0 m 0 ls []) := by
    refine lv_aload_n hx hb d_M_common_0 rfl (lv_at hl 0 rfl) ?_
    refine wz_bipush (n := 34) hx hb d_M_common_1 (by decide) ?_
    refine lv_iload_n hx hb d_M_common_3 rfl (lv_at hl 1 rfl) ?_
    refine pw_callv hw (va_runV (As := [.int (iI (34)), .int (iI ((a : Int)))]) (rest := []) ⟨hx, hb, hml, hown, hq⟩ (c_M_copy l D ty ad M F H.size hM (co) (ln) (wr) hO (34) (a) (by omega) (by omega) (by omega) (za) Na) (cwV 2 hq (gV ml_M_55 im_M_copy se_M_copy in_M m_M_copy) rfl rfl rfl (by decide +kernel) ⟨Nat.le_of_ble_eq_true rfl, Nat.le_of_ble_eq_true rfl⟩) (pw_preV hw (by omega) hO rfl) rfl rfl hl.1 rfl (lv_room (Nat.le_of_ble_eq_true rfl)) d_M_common_4 ⟨Nat.le_of_ble_eq_true rfl, Nat.le_of_ble_eq_true rfl⟩) (fun F4 H locs q4 hw => ?_)
    obtain ⟨N34, hk4, hf4⟩ := q4
    have hO_at_4 : F4 (98) = .inr (6, [.int (iI (co)), .ref (ad (99)), .ref (ad (100)), .ref (ad (101)), .ref (ad (102)), .int (iI (ln)), .int (iI (wr)), .ref (ad (103))]) := (hf4 (98) (by omega) (by omega) (by omega)).trans hO
    have Na_at_4 : Nm ty F4 (a) (za) := hk4 _ _ (by omega) (by first | omega | (dsimp only; omega)) Na
    have Nb1_at_4 : Nm ty F4 (b1) (zb) := hk4 _ _ (by omega) (by first | omega | (dsimp only; omega)) Nb1
    refine lv_aload_n hx hb d_M_common_7 rfl (lv_at hl 0 rfl) ?_
    refine wz_bipush (n := 35) hx hb d_M_common_8 (by decide) ?_
    refine lv_iload_n hx hb d_M_common_10 rfl (lv_at hl 2 rfl) ?_
    refine pw_callv hw (va_runV (As := [.int (iI (35)), .int (iI ((b1 : Int)))]) (rest := []) ⟨hx, hb, hml, hown, hq⟩ (c_M_copy l D ty ad M F4 H.size hM (co) (ln) (wr) hO_at_4 (35) (b1) (by omega) (by omega) (by omega) (zb) Nb1_at_4) (cwV 2 hq (gV ml_M_55 im_M_copy se_M_copy in_M m_M_copy) rfl rfl rfl (by decide +kernel) ⟨Nat.le_of_ble_eq_true rfl, Nat.le_of_ble_eq_true rfl⟩) (pw_preV hw (by omega) hO_at_4 rfl) rfl rfl hl.1 rfl (lv_room (Nat.le_of_ble_eq_true rfl)) d_M_common_11 ⟨Nat.le_of_ble_eq_true rfl, Nat.le_of_ble_eq_true rfl⟩) (fun F11 H locs q11 hw => ?_)
    obtain ⟨N35, hk11, hf11⟩ := q11
    have hO_at_11 : F11 (98) = .inr (6, [.int (iI (co)), .ref (ad (99)), .ref (ad (100)), .ref (ad (101)), .ref (ad (102)), .int (iI (ln)), .int (iI (wr)), .ref (ad (103))]) := (hf11 (98) (by omega) (by omega) (by omega)).trans hO_at_4
    have Na_at_11 : Nm ty F11 (a) (za) := hk11 _ _ (by omega) (by first | omega | (dsimp only; omega)) Na_at_4
    have Nb1_at_11 : Nm ty F11 (b1) (zb) := hk11 _ _ (by omega) (by first | omega | (dsimp only; omega)) Nb1_at_4
    have N34_at_11 : Nm ty F11 (34) (za) := hk11 _ _ (by omega) (by first | omega | (dsimp only; omega)) N34
    have K14 : ∀ (fuel : Nat) (x y : Int) (F14 : Nat → va_E) (H : Heap) (locs : List Loc) (ls : Array Slot), y.natAbs < fuel → (Nat.gcd x.natAbs y.natAbs = Nat.gcd za.natAbs zb.natAbs) → (md x.natAbs) → (md y.natAbs) → (kp ty F F14 (fun c => c = 34 ∨ c = 35 ∨ c = 36 ∨ c = 37 ∨ c = 38)) → (frM F F14) → F14 (98) = .inr (6, [.int (iI (co)), .ref (ad (99)), .ref (ad (100)), .ref (ad (101)), .ref (ad (102)), .int (iI (ln)), .int (iI (wr)), .ref (ad (103))]) → Nm ty F14 (34) (x) → Nm ty F14 (35) (y) → pw D classes (tysL ty) ad M F14 (pA ad M s.heap.size) s H locs → lv_has ls 3 [(0, .ref (ad (98))), (1, .int (iI ((a : Int)))), (2, .int (iI ((b1 : Int))))] → W p l e ({ frames := 3, cells := 0, slots := 0, locals := 84 } : Room) s m ([.ref (ad (98)), .int (iI ((a : Int))), .int (iI ((b1 : Int)))]).toArray below meth c H locs 0 0 Q (F0 m 14 ls []) := by
      intro fuel
      induction fuel with
      | zero => intro x y F14 H locs ls hfuel hg hmx hmy hkp hfr hO N34 N35 hw hl; exact absurd hfuel (Nat.not_lt_zero _)
      | succ fuel ih14 =>
        intro x y F14 H locs ls hfuel hg hmx hmy hkp hfr hO N34 N35 hw hl
        refine lv_aload_n hx hb d_M_common_14 rfl (lv_at hl 0 rfl) ?_
        refine pw_get (ci := 6) (C := R_M) (T := T_M) (N := 8) hx hb hq i_M hown hw (by omega) hO rfl 2 (by decide) (hq _ fl_M_13) (fun _ h9 => h9) rfl d_M_common_15 ?_
        refine wz_bipush (n := 35) hx hb d_M_common_18 (by decide) ?_
        obtain ⟨P20, S20, G20, ⟨a20_99, a20_100, a20_101⟩, ⟨ny, hS20, h320, hD20, ht20, hv20⟩, hG20⟩ := id N35
        have hz20 := bvP_z ht20
        rw [hv20] at hz20
        refine pw_iald (k := 35) hx hb hw 0 (by omega) a20_100 rfl (iI_in (by omega) (by omega) (by omega)) ((iI_cl (by omega) (by omega)).trans (by omega)) d_M_common_20 ?_
        refine lv_topi (fun x20 ex20 => ?_)
        obtain rfl : x20 = iI ((ny : Int)) := ex20.trans (hS20)
        refine wz_if_le (tgt := 51) hx hb d_M_common_21 (by decide) (by omega) (by omega) (fun c21 => ?_) (fun c21 => ?_)
        · refine lv_aload_n hx hb d_M_common_51 rfl (lv_at hl 0 rfl) ?_
          refine pw_get (ci := 6) (C := R_M) (T := T_M) (N := 8) hx hb hq i_M hown hw (by omega) hO rfl 3 (by decide) (hq _ fl_M_16) (fun _ h9 => h9) rfl d_M_common_52 ?_
          refine wz_bipush (n := 34) hx hb d_M_common_55 (by decide) ?_
          refine wz_iconst (n := 0) hx hb d_M_common_57 ?_
          refine pw_zast (k := 34) hx hb hw 4 (by omega) a20_101 rfl (iI_in (by omega) (by omega) (by omega)) ((iI_cl (by omega) (by omega)).trans (by omega)) (y := iI (0)) (by decide) d_M_common_58 (fun F58 H locs eF58 hw => ?_)
          have m58_101 : F58 (101) = .inl (ty 4, 43, .inl (upd G20 (34) (iI (0)))) := by rw [eF58]; exact va_up_self ..
          obtain ⟨N34, hk58⟩ := Nm_sign (t := 34) (z' := ((Int.natAbs x : Nat) : Int)) ⟨a20_99, a20_100, a20_101⟩ ⟨(show F58 (99) = F14 (99) from by rw [eF58]; exact va_up_ne _ _ (by omega)).trans a20_99, (show F58 (100) = F14 (100) from by rw [eF58]; exact va_up_ne _ _ (by omega)).trans a20_100, m58_101⟩ N34 (by omega) (by rw [zB_0 (by omega)]; rfl)
          have hO_at_58 : F58 (98) = .inr (6, [.int (iI (co)), .ref (ad (99)), .ref (ad (100)), .ref (ad (101)), .ref (ad (102)), .int (iI (ln)), .int (iI (wr)), .ref (ad (103))]) := (show F58 (98) = F14 (98) from by rw [eF58]; exact va_up_ne _ _ (by omega)).trans hO
          have N35_at_58 : Nm ty F58 (35) (y) := hk58 _ _ (by omega) (by first | omega | (dsimp only; omega)) N35
          have a20_99_at_58 : F58 (99) = .inl (ty 0, 12900, .inl (P20)) := (show F58 (99) = F14 (99) from by rw [eF58]; exact va_up_ne _ _ (by omega)).trans a20_99
          have a20_100_at_58 : F58 (100) = .inl (ty 0, 43, .inl (S20)) := (show F58 (100) = F14 (100) from by rw [eF58]; exact va_up_ne _ _ (by omega)).trans a20_100
          rw [← hQ]
          exact pw_vret hx hb hr hlocks hw (by
            have hy : y = 0 := by omega
            rw [hy, Int.natAbs_zero, Nat.gcd_zero_right] at hg
            rw [← hg]
            exact ⟨N34, ((hkp).trans hk58).weak (fun c9 _ h9 => by first | omega | (dsimp only at h9 ⊢; omega)), fun y9 h1 h2 h3 => (show F58 (y9) = F14 (y9) from by rw [eF58]; exact va_up_ne _ _ (by omega)).trans (hfr y9 h1 h2 h3)⟩) d_M_common_59
        · refine lv_aload_n hx hb d_M_common_24 rfl (lv_at hl 0 rfl) ?_
          refine wz_bipush (n := 34) hx hb d_M_common_25 (by decide) ?_
          refine wz_bipush (n := 35) hx hb d_M_common_27 (by decide) ?_
          refine pw_callv hw (va_runV (As := [.int (iI (34)), .int (iI (35))]) (rest := []) ⟨hx, hb, hml, hown, hq⟩ (c_M_divide l D ty ad M F14 H.size hM (co) (ln) (wr) hO (34) (35) (x) (y) (by omega) (by omega) (by omega) (by omega) (by omega) N34 N35 (hmx) (hmy)) (cwV 2 hq (gV ml_M_72 im_M_divide se_M_divide in_M m_M_divide) rfl rfl rfl (by decide +kernel) ⟨Nat.le_of_ble_eq_true rfl, Nat.le_of_ble_eq_true rfl⟩) (pw_preV hw (by omega) hO rfl) rfl rfl hl.1 rfl (lv_room (Nat.le_of_ble_eq_true rfl)) d_M_common_29 ⟨Nat.le_of_ble_eq_true rfl, Nat.le_of_ble_eq_true rfl⟩) (fun F29 H locs q29 hw => ?_)
          obtain ⟨N37, N36, hk29, hf29⟩ := q29
          have hO_at_29 : F29 (98) = .inr (6, [.int (iI (co)), .ref (ad (99)), .ref (ad (100)), .ref (ad (101)), .ref (ad (102)), .int (iI (ln)), .int (iI (wr)), .ref (ad (103))]) := (hf29 (98) (by omega) (by omega) (by omega)).trans hO
          have N34_at_29 : Nm ty F29 (34) (x) := hk29 _ _ (by omega) (by first | omega | (dsimp only; omega)) N34
          have N35_at_29 : Nm ty F29 (35) (y) := hk29 _ _ (by omega) (by first | omega | (dsimp only; omega)) N35
          refine lv_aload_n hx hb d_M_common_32 rfl (lv_at hl 0 rfl) ?_
          refine wz_bipush (n := 34) hx hb d_M_common_33 (by decide) ?_
          refine wz_bipush (n := 35) hx hb d_M_common_35 (by decide) ?_
          refine pw_callv hw (va_runV (As := [.int (iI (34)), .int (iI (35))]) (rest := []) ⟨hx, hb, hml, hown, hq⟩ (c_M_copy l D ty ad M F29 H.size hM (co) (ln) (wr) hO_at_29 (34) (35) (by omega) (by omega) (by omega) (y) N35_at_29) (cwV 2 hq (gV ml_M_55 im_M_copy se_M_copy in_M m_M_copy) rfl rfl rfl (by decide +kernel) ⟨Nat.le_of_ble_eq_true rfl, Nat.le_of_ble_eq_true rfl⟩) (pw_preV hw (by omega) hO_at_29 rfl) rfl rfl hl.1 rfl (lv_room (Nat.le_of_ble_eq_true rfl)) d_M_common_37 ⟨Nat.le_of_ble_eq_true rfl, Nat.le_of_ble_eq_true rfl⟩) (fun F37 H locs q37 hw => ?_)
          obtain ⟨N34, hk37, hf37⟩ := q37
          have hO_at_37 : F37 (98) = .inr (6, [.int (iI (co)), .ref (ad (99)), .ref (ad (100)), .ref (ad (101)), .ref (ad (102)), .int (iI (ln)), .int (iI (wr)), .ref (ad (103))]) := (hf37 (98) (by omega) (by omega) (by omega)).trans hO_at_29
          have N35_at_37 : Nm ty F37 (35) (y) := hk37 _ _ (by omega) (by first | omega | (dsimp only; omega)) N35_at_29
          have N37_at_37 : Nm ty F37 (37) (Int.tdiv x y) := hk37 _ _ (by omega) (by first | omega | (dsimp only; omega)) N37
          have N36_at_37 : Nm ty F37 (36) (Int.tmod x y) := hk37 _ _ (by omega) (by first | omega | (dsimp only; omega)) N36
          refine lv_aload_n hx hb d_M_common_40 rfl (lv_at hl 0 rfl) ?_
          refine wz_bipush (n := 35) hx hb d_M_common_41 (by decide) ?_
          refine wz_bipush (n := 36) hx hb d_M_common_43 (by decide) ?_
          refine pw_callv hw (va_runV (As := [.int (iI (35)), .int (iI (36))]) (rest := []) ⟨hx, hb, hml, hown, hq⟩ (c_M_copy l D ty ad M F37 H.size hM (co) (ln) (wr) hO_at_37 (35) (36) (by omega) (by omega) (by omega) (Int.tmod x y) N36_at_37) (cwV 2 hq (gV ml_M_55 im_M_copy se_M_copy in_M m_M_copy) rfl rfl rfl (by decide +kernel) ⟨Nat.le_of_ble_eq_true rfl, Nat.le_of_ble_eq_true rfl⟩) (pw_preV hw (by omega) hO_at_37 rfl) rfl rfl hl.1 rfl (lv_room (Nat.le_of_ble_eq_true rfl)) d_M_common_45 ⟨Nat.le_of_ble_eq_true rfl, Nat.le_of_ble_eq_true rfl⟩) (fun F45 H locs q45 hw => ?_)
          obtain ⟨N35, hk45, hf45⟩ := q45
          have hO_at_45 : F45 (98) = .inr (6, [.int (iI (co)), .ref (ad (99)), .ref (ad (100)), .ref (ad (101)), .ref (ad (102)), .int (iI (ln)), .int (iI (wr)), .ref (ad (103))]) := (hf45 (98) (by omega) (by omega) (by omega)).trans hO_at_37
          have N37_at_45 : Nm ty F45 (37) (Int.tdiv x y) := hk45 _ _ (by omega) (by first | omega | (dsimp only; omega)) N37_at_37
          have N36_at_45 : Nm ty F45 (36) (Int.tmod x y) := hk45 _ _ (by omega) (by first | omega | (dsimp only; omega)) N36_at_37
          have N34_at_45 : Nm ty F45 (34) (y) := hk45 _ _ (by omega) (by first | omega | (dsimp only; omega)) N34
          refine lv_goto (tgt := 14) hx hb d_M_common_48 (by decide) ?_
          exact ih14 y (Int.tmod x y) _ _ _ ls (by rw [Int.natAbs_tmod]; have := Nat.mod_lt x.natAbs (show 0 < y.natAbs by omega); omega) (by rw [gcd_tmod]; exact hg) (hmy) (by rw [Int.natAbs_tmod]; exact hmx.mod) (((((hkp).trans hk29).trans hk37).trans hk45).weak (fun c9 _ h9 => by first | omega | (dsimp only at h9 ⊢; omega))) (fun y9 h1 h2 h3 => ((hf45 (y9) (by omega) (by omega) (by omega)).trans ((hf37 (y9) (by omega) (by omega) (by omega)).trans (hf29 (y9) (by omega) (by omega) (by omega)))).trans (hfr y9 h1 h2 h3)) hO_at_45 N34_at_45 N35 hw hl
    exact K14 _ za zb _ _ _ ls (Nat.lt_succ_self _) (rfl) (hma) (hmb) (((hk4).trans hk11).weak (fun c9 _ h9 => by first | omega | (dsimp only at h9 ⊢; omega))) (fun y9 h1 h2 h3 => (hf11 (y9) (by omega) (by omega) (by omega)).trans (hf4 (y9) (by omega) (by omega) (by omega))) hO_at_11 N34_at_11 N35 hw hl
  rw [hH, hlo] at hgo
  exact hgo
set_option maxHeartbeats 4000000 in
set_option maxRecDepth 100000 in
/-- floor(a, b) -/
theorem c_M_floor (l : Launch) (D : va_G) (ty : Nat → ClassId) (ad : Nat → Nat) (M : Nat) (F : Nat → va_E) (sz : Nat) (hM : 103 < M) (co ln wr : Int) (hO : F 98 = oM ad co ln wr) (a b1 : Nat) (za zb : Int) (ha : a < 43) (hb1 : b1 < 43) (hna9 : a < 36 ∨ a = 39 ∨ a = 40) (hnb9 : b1 < 36 ∨ b1 = 39 ∨ b1 = 40) (hz : 0 < zb) (Na : Nm ty F a za) (Nb1 : Nm ty F b1 zb) (hma : md za.natAbs) (hmb : md zb.natAbs) :
    CV l y_M_floor w_M_floor ({ frames := 3, cells := 0, slots := 0, locals := 84 } : Room) [.ref (ad (98)), .int (iI ((a : Int))), .int (iI ((b1 : Int)))] D ty ad M F sz (fun F1 => Nm ty F1 41 (za / zb) ∧ kp ty F F1 (fun c => c = 36 ∨ c = 37 ∨ c = 38 ∨ c = 41 ∨ c = 42) ∧ frM F F1) := by
  refine Met.ofW (cc := b_M_floor) (maxL := 3) (ret := none) (by decide) rfl ?_
  intro p e s m args below meth c s₁ B hml hv
  obtain ⟨rfl, hsz, hP, hK, hD0⟩ := hv
  have hx := B.exec
  have hb := B.bytes
  have hr := B.returns
  have hts := atoms_spec (ws := w_M_floor) B.pre
  have hq : ∀ w ∈ wT, w.before _ s = true := fun w h => hts w (List.mem_cons_of_mem _ h)
  have hown : s.vm.findClass R_M = some m.cls := findClass_of_methodNamed B.named
  have hlocks := B.notSynchronized
  subst hsz
  have hw := pw_start hP hK hD0
  have hl := lv_entry ([.ref (ad (98)), .int (iI ((a : Int))), .int (iI ((b1 : Int)))]) (n := 3) (Nat.le_of_ble_eq_true rfl)
  rw [lg_entry_eq]
  generalize (lg_sl ([.ref (ad (98)), .int (iI ((a : Int))), .int (iI ((b1 : Int)))]) ++ List.replicate (3 - (lg_sl ([.ref (ad (98)), .int (iI ((a : Int))), .int (iI ((b1 : Int)))])).length) Slot.unset).toArray = ls at hl ⊢
  have hl : lv_has ls 3 [(0, .ref (ad (98))), (1, .int (iI ((a : Int)))), (2, .int (iI ((b1 : Int))))] := hl
  change W p l e ({ frames := 3, cells := 0, slots := 0, locals := 84 } : Room) s m ([.ref (ad (98)), .int (iI ((a : Int))), .int (iI ((b1 : Int)))]).toArray below meth c s.heap [] 0 0 (MQ below (va_Qv (fun F1 => Nm ty F1 41 (za / zb) ∧ kp ty F F1 (fun c => c = 36 ∨ c = 37 ∨ c = 38 ∨ c = 41 ∨ c = 42) ∧ frM F F1) (pAt D classes (tysL ty) ad M (pA ad M s.heap.size)) (pA ad M s.heap.size)) ([.ref (ad (98)), .int (iI ((a : Int))), .int (iI ((b1 : Int)))]).toArray s 0 0 (pA ad M s.heap.size)) (F0 m 0 ls [])
  generalize hQ : MQ below (va_Qv (fun F1 => Nm ty F1 41 (za / zb) ∧ kp ty F F1 (fun c => c = 36 ∨ c = 37 ∨ c = 38 ∨ c = 41 ∨ c = 42) ∧ frM F F1) (pAt D classes (tysL ty) ad M (pA ad M s.heap.size)) (pA ad M s.heap.size)) ([.ref (ad (98)), .int (iI ((a : Int))), .int (iI ((b1 : Int)))]).toArray s 0 0 (pA ad M s.heap.size) = Q
  obtain ⟨H, hH⟩ : ∃ H, H = s.heap := ⟨_, rfl⟩
  obtain ⟨locs, hlo⟩ : ∃ z : List Loc, z = [] := ⟨_, rfl⟩
  have hw : pw D classes (tysL ty) ad M F (pA ad M s.heap.size) s H locs := by rw [hH, hlo]; exact hw
  have hgo : W p l e ({ frames := 3, cells := 0, slots := 0, locals := 84 } : Room) s m ([.ref (ad (98)), .int (iI ((a : Int))), .int (iI ((b1 : Int)))]).toArray below meth c H locs 0 0 Q (F0 m 0 ls []) := by
    refine lv_aload_n hx hb d_M_floor_0 rfl (lv_at hl 0 rfl) ?_
    refine lv_iload_n hx hb d_M_floor_1 rfl (lv_at hl 1 rfl) ?_
    refine lv_iload_n hx hb d_M_floor_2 rfl (lv_at hl 2 rfl) ?_
    refine pw_callv hw (va_runV (As := [.int (iI ((a : Int))), .int (iI ((b1 : Int)))]) (rest := []) ⟨hx, hb, hml, hown, hq⟩ (c_M_divide l D ty ad M F H.size hM (co) (ln) (wr) hO (a) (b1) (za) (zb) (by omega) (by omega) (by omega) (by omega) (by omega) Na Nb1 (hma) (hmb)) (cwV 2 hq (gV ml_M_72 im_M_divide se_M_divide in_M m_M_divide) rfl rfl rfl (by decide +kernel) ⟨Nat.le_of_ble_eq_true rfl, Nat.le_of_ble_eq_true rfl⟩) (pw_preV hw (by omega) hO rfl) rfl rfl hl.1 rfl (lv_room (Nat.le_of_ble_eq_true rfl)) d_M_floor_3 ⟨Nat.le_of_ble_eq_true rfl, Nat.le_of_ble_eq_true rfl⟩) (fun F3 H locs q3 hw => ?_)
    obtain ⟨N37, N36, hk3, hf3⟩ := q3
    have hO_at_3 : F3 (98) = .inr (6, [.int (iI (co)), .ref (ad (99)), .ref (ad (100)), .ref (ad (101)), .ref (ad (102)), .int (iI (ln)), .int (iI (wr)), .ref (ad (103))]) := (hf3 (98) (by omega) (by omega) (by omega)).trans hO
    have Na_at_3 : Nm ty F3 (a) (za) := hk3 _ _ (by omega) (by first | omega | (dsimp only; omega)) Na
    have Nb1_at_3 : Nm ty F3 (b1) (zb) := hk3 _ _ (by omega) (by first | omega | (dsimp only; omega)) Nb1
    refine lv_aload_n hx hb d_M_floor_6 rfl (lv_at hl 0 rfl) ?_
    refine wz_bipush (n := 41) hx hb d_M_floor_7 (by decide) ?_
    refine wz_bipush (n := 37) hx hb d_M_floor_9 (by decide) ?_
    refine pw_callv hw (va_runV (As := [.int (iI (41)), .int (iI (37))]) (rest := []) ⟨hx, hb, hml, hown, hq⟩ (c_M_copy l D ty ad M F3 H.size hM (co) (ln) (wr) hO_at_3 (41) (37) (by omega) (by omega) (by omega) (Int.tdiv za zb) N37) (cwV 2 hq (gV ml_M_55 im_M_copy se_M_copy in_M m_M_copy) rfl rfl rfl (by decide +kernel) ⟨Nat.le_of_ble_eq_true rfl, Nat.le_of_ble_eq_true rfl⟩) (pw_preV hw (by omega) hO_at_3 rfl) rfl rfl hl.1 rfl (lv_room (Nat.le_of_ble_eq_true rfl)) d_M_floor_11 ⟨Nat.le_of_ble_eq_true rfl, Nat.le_of_ble_eq_true rfl⟩) (fun F11 H locs q11 hw => ?_)
    obtain ⟨N41, hk11, hf11⟩ := q11
    have hO_at_11 : F11 (98) = .inr (6, [.int (iI (co)), .ref (ad (99)), .ref (ad (100)), .ref (ad (101)), .ref (ad (102)), .int (iI (ln)), .int (iI (wr)), .ref (ad (103))]) := (hf11 (98) (by omega) (by omega) (by omega)).trans hO_at_3
    have Na_at_11 : Nm ty F11 (a) (za) := hk11 _ _ (by omega) (by first | omega | (dsimp only; omega)) Na_at_3
    have Nb1_at_11 : Nm ty F11 (b1) (zb) := hk11 _ _ (by omega) (by first | omega | (dsimp only; omega)) Nb1_at_3
    have N37_at_11 : Nm ty F11 (37) (Int.tdiv za zb) := hk11 _ _ (by omega) (by first | omega | (dsimp only; omega)) N37
    have N36_at_11 : Nm ty F11 (36) (Int.tmod za zb) := hk11 _ _ (by omega) (by first | omega | (dsimp only; omega)) N36
    refine lv_aload_n hx hb d_M_floor_14 rfl (lv_at hl 0 rfl) ?_
    refine pw_get (ci := 6) (C := R_M) (T := T_M) (N := 8) hx hb hq i_M hown hw (by omega) hO_at_11 rfl 2 (by decide) (hq _ fl_M_13) (fun _ h9 => h9) rfl d_M_floor_15 ?_
    refine wz_bipush (n := 36) hx hb d_M_floor_18 (by decide) ?_
    obtain ⟨P20, S20, G20, ⟨a20_99, a20_100, a20_101⟩, ⟨nr, hS20, h320, hD20, ht20, hv20⟩, hG20⟩ := id N36_at_11
    have hz20 := bvP_z ht20
    rw [hv20] at hz20
    refine pw_iald (k := 36) hx hb hw 0 (by omega) a20_100 rfl (iI_in (by omega) (by omega) (by omega)) ((iI_cl (by omega) (by omega)).trans (by omega)) d_M_floor_20 ?_
    refine lv_topi (fun x20 ex20 => ?_)
    obtain rfl : x20 = iI ((nr : Int)) := ex20.trans (hS20)
    refine wz_if_le (tgt := 52) hx hb d_M_floor_21 (by decide) (by omega) (by omega) (fun c21 => ?_) (fun c21 => ?_)
    · rw [← hQ]
      exact pw_vret hx hb hr hlocks hw (by
        rw [fl_of hz, if_neg (by omega)]
        exact ⟨N41, ((hk3).trans hk11).weak (fun c9 _ h9 => by first | omega | (dsimp only at h9 ⊢; omega)), fun y9 h1 h2 h3 => (hf11 (y9) (by omega) (by omega) (by omega)).trans (hf3 (y9) (by omega) (by omega) (by omega))⟩) d_M_floor_52
    · refine lv_aload_n hx hb d_M_floor_24 rfl (lv_at hl 0 rfl) ?_
      refine pw_get (ci := 6) (C := R_M) (T := T_M) (N := 8) hx hb hq i_M hown hw (by omega) hO_at_11 rfl 3 (by decide) (hq _ fl_M_16) (fun _ h9 => h9) rfl d_M_floor_25 ?_
      refine wz_bipush (n := 36) hx hb d_M_floor_28 (by decide) ?_
      obtain ⟨P30, S30, G30, ⟨a30_99, a30_100, a30_101⟩, ⟨n30, hS30, h330, hD30, ht30, hv30⟩, hG30⟩ := id N36_at_11
      have hs30 := sB_c (Int.tmod za zb)
      refine pw_zald (k := 36) hx hb hw 4 (by omega) a30_101 rfl (iI_in (by omega) (by omega) (by omega)) ((iI_cl (by omega) (by omega)).trans (by omega)) d_M_floor_30 ?_
      refine lv_topi (fun x30 ex30 => ?_)
      obtain rfl : x30 = iI ((sB (Int.tmod za zb) : Int)) := ex30.trans (hG30)
      refine wz_if_eq (tgt := 52) hx hb d_M_floor_31 (by decide) (by omega) (by omega) (fun c31 => ?_) (fun c31 => ?_)
      · rw [← hQ]
        exact pw_vret hx hb hr hlocks hw (by
          rw [fl_of hz, if_neg (by omega)]
          exact ⟨N41, ((hk3).trans hk11).weak (fun c9 _ h9 => by first | omega | (dsimp only at h9 ⊢; omega)), fun y9 h1 h2 h3 => (hf11 (y9) (by omega) (by omega) (by omega)).trans (hf3 (y9) (by omega) (by omega) (by omega))⟩) d_M_floor_52
      · refine lv_aload_n hx hb d_M_floor_34 rfl (lv_at hl 0 rfl) ?_
        refine wz_bipush (n := 42) hx hb d_M_floor_35 (by decide) ?_
        refine lv_lconst (v := iL 1) hx hb d_M_floor_37 (by decide) ?_
        obtain ⟨_, _, _, hA38⟩ := (N41).ma
        refine pw_callv hw (va_runV (As := [.int (iI (42)), .long (iL (1))]) (rest := []) ⟨hx, hb, hml, hown, hq⟩ (c_M_setLong l D ty ad M F11 H.size hM (co) (ln) (wr) hO_at_11 _ _ _ hA38 (42) (by omega) (1) (by omega)) (cwV 2 hq (gV ml_M_30 im_M_setLong se_M_setLong in_M m_M_setLong) rfl rfl rfl (by decide +kernel) ⟨Nat.le_of_ble_eq_true rfl, Nat.le_of_ble_eq_true rfl⟩) (pw_preV hw (by omega) hO_at_11 rfl) rfl rfl hl.1 rfl (lv_room (Nat.le_of_ble_eq_true rfl)) d_M_floor_38 ⟨Nat.le_of_ble_eq_true rfl, Nat.le_of_ble_eq_true rfl⟩) (fun F38 H locs q38 hw => ?_)
        obtain ⟨N42, hk38, hf38⟩ := q38
        have hO_at_38 : F38 (98) = .inr (6, [.int (iI (co)), .ref (ad (99)), .ref (ad (100)), .ref (ad (101)), .ref (ad (102)), .int (iI (ln)), .int (iI (wr)), .ref (ad (103))]) := (hf38 (98) (by omega) (by omega) (by omega)).trans hO_at_11
        have Na_at_38 : Nm ty F38 (a) (za) := hk38 _ _ (by omega) (by first | omega | (dsimp only; omega)) Na_at_11
        have Nb1_at_38 : Nm ty F38 (b1) (zb) := hk38 _ _ (by omega) (by first | omega | (dsimp only; omega)) Nb1_at_11
        have N37_at_38 : Nm ty F38 (37) (Int.tdiv za zb) := hk38 _ _ (by omega) (by first | omega | (dsimp only; omega)) N37_at_11
        have N36_at_38 : Nm ty F38 (36) (Int.tmod za zb) := hk38 _ _ (by omega) (by first | omega | (dsimp only; omega)) N36_at_11
        have N41_at_38 : Nm ty F38 (41) (Int.tdiv za zb) := hk38 _ _ (by omega) (by first | omega | (dsimp only; omega)) N41
        refine lv_aload_n hx hb d_M_floor_41 rfl (lv_at hl 0 rfl) ?_
        refine wz_bipush (n := 41) hx hb d_M_floor_42 (by decide) ?_
        refine wz_bipush (n := 41) hx hb d_M_floor_44 (by decide) ?_
        refine wz_bipush (n := 42) hx hb d_M_floor_46 (by decide) ?_
        refine wz_iconst (n := 1) hx hb d_M_floor_48 ?_
        refine pw_callv hw (va_runV (As := [.int (iI (41)), .int (iI (41)), .int (iI (42)), .int (iI (1))]) (rest := []) ⟨hx, hb, hml, hown, hq⟩ (c_M_join l D ty ad M F38 H.size hM (co) (ln) (wr) hO_at_38 (41) (41) (42) 1 (Int.tdiv za zb) (1) (by omega) (by omega) (by omega) (by omega) N41_at_38 N42 (tdiv_md hma) (md_1)) (cwV 4 hq (gV ml_M_75 im_M_join se_M_join in_M m_M_join) rfl rfl rfl (by decide +kernel) ⟨Nat.le_of_ble_eq_true rfl, Nat.le_of_ble_eq_true rfl⟩) (pw_preV hw (by omega) hO_at_38 rfl) rfl rfl hl.1 rfl (lv_room (Nat.le_of_ble_eq_true rfl)) d_M_floor_49 ⟨Nat.le_of_ble_eq_true rfl, Nat.le_of_ble_eq_true rfl⟩) (fun F49 H locs q49 hw => ?_)
        obtain ⟨N41, hk49, hf49⟩ := q49
        have hO_at_49 : F49 (98) = .inr (6, [.int (iI (co)), .ref (ad (99)), .ref (ad (100)), .ref (ad (101)), .ref (ad (102)), .int (iI (ln)), .int (iI (wr)), .ref (ad (103))]) := (hf49 (98) (by omega) (by omega) (by omega)).trans hO_at_38
        have Na_at_49 : Nm ty F49 (a) (za) := hk49 _ _ (by omega) (by first | omega | (dsimp only; omega)) Na_at_38
        have Nb1_at_49 : Nm ty F49 (b1) (zb) := hk49 _ _ (by omega) (by first | omega | (dsimp only; omega)) Nb1_at_38
        have N37_at_49 : Nm ty F49 (37) (Int.tdiv za zb) := hk49 _ _ (by omega) (by first | omega | (dsimp only; omega)) N37_at_38
        have N36_at_49 : Nm ty F49 (36) (Int.tmod za zb) := hk49 _ _ (by omega) (by first | omega | (dsimp only; omega)) N36_at_38
        have N42_at_49 : Nm ty F49 (42) (1) := hk49 _ _ (by omega) (by first | omega | (dsimp only; omega)) N42
        rw [← hQ]
        exact pw_vret hx hb hr hlocks hw (by
          rw [fl_of hz, if_pos (by omega), ← jz1]
          exact ⟨N41, ((((hk3).trans hk11).trans hk38).trans hk49).weak (fun c9 _ h9 => by first | omega | (dsimp only at h9 ⊢; omega)), fun y9 h1 h2 h3 => (hf49 (y9) (by omega) (by omega) (by omega)).trans ((hf38 (y9) (by omega) (by omega) (by omega)).trans ((hf11 (y9) (by omega) (by omega) (by omega)).trans (hf3 (y9) (by omega) (by omega) (by omega))))⟩) d_M_floor_52
  rw [hH, hlo] at hgo
  exact hgo
set_option maxHeartbeats 4000000 in
set_option maxRecDepth 100000 in
/-- isRegister(r) -/
theorem c_M_isRegister (l : Launch) (D : va_G) (ty : Nat → ClassId) (ad : Nat → Nat) (M : Nat) (F : Nat → va_E) (sz : Nat) (i : Int) (hi : -2147483648 ≤ i ∧ i < 2147483648) :
    CI l y_M_isRegister w_M_isRegister ({ frames := 0, cells := 0, slots := 0, locals := 0 } : Room) [.int (iI (i))] D ty ad M F sz (fun r F1 => r = iI ((rg i : Nat) : Int) ∧ F1 = F) := by
  refine Met.ofW (cc := b_M_isRegister) (maxL := 1) (ret := (some .boolean)) (by decide) rfl ?_
  intro p e s m args below meth c s₁ B hml hv
  obtain ⟨rfl, hsz, hP, hK, hD0⟩ := hv
  have hx := B.exec
  have hb := B.bytes
  have hr := B.returns
  have hts := atoms_spec (ws := w_M_isRegister) B.pre
  have hq : ∀ w ∈ wT, w.before _ s = true := fun w h => hts w (List.mem_cons_of_mem _ h)
  have hown : s.vm.findClass R_M = some m.cls := findClass_of_methodNamed B.named
  have hlocks := B.notSynchronized
  subst hsz
  have hw := pw_start hP hK hD0
  have hl := lv_entry ([.int (iI (i))]) (n := 1) (Nat.le_of_ble_eq_true rfl)
  rw [lg_entry_eq]
  generalize (lg_sl ([.int (iI (i))]) ++ List.replicate (1 - (lg_sl ([.int (iI (i))])).length) Slot.unset).toArray = ls at hl ⊢
  have hl : lv_has ls 1 [(0, .int (iI (i)))] := hl
  change W p l e ({ frames := 0, cells := 0, slots := 0, locals := 0 } : Room) s m ([.int (iI (i))]).toArray below meth c s.heap [] 0 0 (MQ below (va_Qi (fun r F1 => r = iI ((rg i : Nat) : Int) ∧ F1 = F) (pAt D classes (tysL ty) ad M (pA ad M s.heap.size)) (pA ad M s.heap.size)) ([.int (iI (i))]).toArray s 0 0 (pA ad M s.heap.size)) (F0 m 0 ls [])
  generalize hQ : MQ below (va_Qi (fun r F1 => r = iI ((rg i : Nat) : Int) ∧ F1 = F) (pAt D classes (tysL ty) ad M (pA ad M s.heap.size)) (pA ad M s.heap.size)) ([.int (iI (i))]).toArray s 0 0 (pA ad M s.heap.size) = Q
  obtain ⟨H, hH⟩ : ∃ H, H = s.heap := ⟨_, rfl⟩
  obtain ⟨locs, hlo⟩ : ∃ z : List Loc, z = [] := ⟨_, rfl⟩
  have hw : pw D classes (tysL ty) ad M F (pA ad M s.heap.size) s H locs := by rw [hH, hlo]; exact hw
  have hgo : W p l e ({ frames := 0, cells := 0, slots := 0, locals := 0 } : Room) s m ([.int (iI (i))]).toArray below meth c H locs 0 0 Q (F0 m 0 ls []) := by
    refine lv_iload_n hx hb d_M_isRegister_0 rfl (lv_at hl 0 rfl) ?_
    refine wz_if_lt (tgt := 14) hx hb d_M_isRegister_1 (by decide) (by omega) (by omega) (fun c1 => ?_) (fun c1 => ?_)
    · refine wz_iconst (n := 0) hx hb d_M_isRegister_14 ?_
      rw [← hQ]
      exact pw_zret hx hb hr (by decide) hlocks hw (⟨rg_0 (fun h9 => by have := h9.1; have := h9.2; omega), rfl⟩) d_M_isRegister_15
    · refine lv_iload_n hx hb d_M_isRegister_4 rfl (lv_at hl 0 rfl) ?_
      refine wz_bipush (n := 16) hx hb d_M_isRegister_5 (by decide) ?_
      refine wz_icmp_ge (tgt := 14) hx hb d_M_isRegister_7 (by decide) (by omega) (by omega) (by omega) (by omega) (fun c7 => ?_) (fun c7 => ?_)
      · refine wz_iconst (n := 0) hx hb d_M_isRegister_14 ?_
        rw [← hQ]
        exact pw_zret hx hb hr (by decide) hlocks hw (⟨rg_0 (fun h9 => by have := h9.1; have := h9.2; omega), rfl⟩) d_M_isRegister_15
      · refine wz_iconst (n := 1) hx hb d_M_isRegister_10 ?_
        refine lv_goto (tgt := 15) hx hb d_M_isRegister_11 (by decide) ?_
        rw [← hQ]
        exact pw_zret hx hb hr (by decide) hlocks hw (⟨rg_1 ⟨by omega, by omega⟩, rfl⟩) d_M_isRegister_15
  rw [hH, hlo] at hgo
  exact hgo
set_option maxHeartbeats 4000000 in
set_option maxRecDepth 100000 in
/-- below(r) -/
theorem c_M_below (l : Launch) (D : va_G) (ty : Nat → ClassId) (ad : Nat → Nat) (M : Nat) (F : Nat → va_E) (sz : Nat) (a : Nat) (ha : a < 100) :
    CI l y_M_below w_M_below ({ frames := 0, cells := 0, slots := 0, locals := 0 } : Room) [.int (iI ((a : Int)))] D ty ad M F sz (fun r F1 => r = iI ((16 + a : Nat) : Int) ∧ F1 = F) := by
  refine Met.ofW (cc := b_M_below) (maxL := 1) (ret := (some .int)) (by decide) rfl ?_
  intro p e s m args below meth c s₁ B hml hv
  obtain ⟨rfl, hsz, hP, hK, hD0⟩ := hv
  have hx := B.exec
  have hb := B.bytes
  have hr := B.returns
  have hts := atoms_spec (ws := w_M_below) B.pre
  have hq : ∀ w ∈ wT, w.before _ s = true := fun w h => hts w (List.mem_cons_of_mem _ h)
  have hown : s.vm.findClass R_M = some m.cls := findClass_of_methodNamed B.named
  have hlocks := B.notSynchronized
  subst hsz
  have hw := pw_start hP hK hD0
  have hl := lv_entry ([.int (iI ((a : Int)))]) (n := 1) (Nat.le_of_ble_eq_true rfl)
  rw [lg_entry_eq]
  generalize (lg_sl ([.int (iI ((a : Int)))]) ++ List.replicate (1 - (lg_sl ([.int (iI ((a : Int)))])).length) Slot.unset).toArray = ls at hl ⊢
  have hl : lv_has ls 1 [(0, .int (iI ((a : Int))))] := hl
  change W p l e ({ frames := 0, cells := 0, slots := 0, locals := 0 } : Room) s m ([.int (iI ((a : Int)))]).toArray below meth c s.heap [] 0 0 (MQ below (va_Qi (fun r F1 => r = iI ((16 + a : Nat) : Int) ∧ F1 = F) (pAt D classes (tysL ty) ad M (pA ad M s.heap.size)) (pA ad M s.heap.size)) ([.int (iI ((a : Int)))]).toArray s 0 0 (pA ad M s.heap.size)) (F0 m 0 ls [])
  generalize hQ : MQ below (va_Qi (fun r F1 => r = iI ((16 + a : Nat) : Int) ∧ F1 = F) (pAt D classes (tysL ty) ad M (pA ad M s.heap.size)) (pA ad M s.heap.size)) ([.int (iI ((a : Int)))]).toArray s 0 0 (pA ad M s.heap.size) = Q
  obtain ⟨H, hH⟩ : ∃ H, H = s.heap := ⟨_, rfl⟩
  obtain ⟨locs, hlo⟩ : ∃ z : List Loc, z = [] := ⟨_, rfl⟩
  have hw : pw D classes (tysL ty) ad M F (pA ad M s.heap.size) s H locs := by rw [hH, hlo]; exact hw
  have hgo : W p l e ({ frames := 0, cells := 0, slots := 0, locals := 0 } : Room) s m ([.int (iI ((a : Int)))]).toArray below meth c H locs 0 0 Q (F0 m 0 ls []) := by
    refine wz_bipush (n := 16) hx hb d_M_below_0 (by decide) ?_
    refine lv_iload_n hx hb d_M_below_2 rfl (lv_at hl 0 rfl) ?_
    refine wz_iadd (z := ((16 + a : Nat) : Int)) hx hb d_M_below_3 (by omega) ?_
    rw [← hQ]
    exact pw_iret hx hb hr hlocks hw (⟨rfl, rfl⟩) d_M_below_4
  rw [hH, hlo] at hgo
  exact hgo
set_option maxHeartbeats 4000000 in
set_option maxRecDepth 100000 in
/-- lay(to) -/
theorem c_M_lay (l : Launch) (D : va_G) (ty : Nat → ClassId) (ad : Nat → Nat) (M : Nat) (F : Nat → va_E) (sz : Nat) (hM : 103 < M) (co ln wr : Int) (hO : F 98 = oM ad co ln wr) (to : Nat) (zp zq : Int) (g : Sg) (hto : to < 16) (hz : zq ≠ 0) (N32 : Nm ty F 32 zp) (N33 : Nm ty F 33 zq) (hRn : Rn ty F g) (hmp0 : md zp.natAbs) (hmq0 : md zq.natAbs) :
    CI l y_M_lay w_M_lay ({ frames := 4, cells := 0, slots := 0, locals := 106 } : Room) [.ref (ad (98)), .int (iI ((to : Int)))] D ty ad M F sz (fun r F1 => r = iI (s_lay g to (flZ zq zp) zq.natAbs).1 ∧ Rn ty F1 (s_lay g to (flZ zq zp) zq.natAbs).2 ∧ frM F F1) := by
  refine Met.ofW (cc := b_M_lay) (maxL := 2) (ret := (some .int)) (by decide) rfl ?_
  intro p e s m args below meth c s₁ B hml hv
  obtain ⟨rfl, hsz, hP, hK, hD0⟩ := hv
  have hx := B.exec
  have hb := B.bytes
  have hr := B.returns
  have hts := atoms_spec (ws := w_M_lay) B.pre
  have hq : ∀ w ∈ wT, w.before _ s = true := fun w h => hts w (List.mem_cons_of_mem _ h)
  have hown : s.vm.findClass R_M = some m.cls := findClass_of_methodNamed B.named
  have hlocks := B.notSynchronized
  subst hsz
  have hw := pw_start hP hK hD0
  have hl := lv_entry ([.ref (ad (98)), .int (iI ((to : Int)))]) (n := 2) (Nat.le_of_ble_eq_true rfl)
  rw [lg_entry_eq]
  generalize (lg_sl ([.ref (ad (98)), .int (iI ((to : Int)))]) ++ List.replicate (2 - (lg_sl ([.ref (ad (98)), .int (iI ((to : Int)))])).length) Slot.unset).toArray = ls at hl ⊢
  have hl : lv_has ls 2 [(0, .ref (ad (98))), (1, .int (iI ((to : Int))))] := hl
  change W p l e ({ frames := 4, cells := 0, slots := 0, locals := 106 } : Room) s m ([.ref (ad (98)), .int (iI ((to : Int)))]).toArray below meth c s.heap [] 0 0 (MQ below (va_Qi (fun r F1 => r = iI (s_lay g to (flZ zq zp) zq.natAbs).1 ∧ Rn ty F1 (s_lay g to (flZ zq zp) zq.natAbs).2 ∧ frM F F1) (pAt D classes (tysL ty) ad M (pA ad M s.heap.size)) (pA ad M s.heap.size)) ([.ref (ad (98)), .int (iI ((to : Int)))]).toArray s 0 0 (pA ad M s.heap.size)) (F0 m 0 ls [])
  generalize hQ : MQ below (va_Qi (fun r F1 => r = iI (s_lay g to (flZ zq zp) zq.natAbs).1 ∧ Rn ty F1 (s_lay g to (flZ zq zp) zq.natAbs).2 ∧ frM F F1) (pAt D classes (tysL ty) ad M (pA ad M s.heap.size)) (pA ad M s.heap.size)) ([.ref (ad (98)), .int (iI ((to : Int)))]).toArray s 0 0 (pA ad M s.heap.size) = Q
  obtain ⟨H, hH⟩ : ∃ H, H = s.heap := ⟨_, rfl⟩
  obtain ⟨locs, hlo⟩ : ∃ z : List Loc, z = [] := ⟨_, rfl⟩
  have hw : pw D classes (tysL ty) ad M F (pA ad M s.heap.size) s H locs := by rw [hH, hlo]; exact hw
  have hgo : W p l e ({ frames := 4, cells := 0, slots := 0, locals := 106 } : Room) s m ([.ref (ad (98)), .int (iI ((to : Int)))]).toArray below meth c H locs 0 0 Q (F0 m 0 ls []) := by
    have K50 : ∀ (pz : Int) (qz : Nat) (F50 : Nat → va_E) (H : Heap) (locs : List Loc) (ls : Array Slot), (pz = flZ zq zp) → (qz = zq.natAbs) → (0 < qz) → (md pz.natAbs) → (md qz) → (frM F F50) → F50 (98) = .inr (6, [.int (iI (co)), .ref (ad (99)), .ref (ad (100)), .ref (ad (101)), .ref (ad (102)), .int (iI (ln)), .int (iI (wr)), .ref (ad (103))]) → Nm ty F50 (32) (pz) → Nm ty F50 (33) ((qz : Int)) → Rn ty F50 (g) → pw D classes (tysL ty) ad M F50 (pA ad M s.heap.size) s H locs → lv_has ls 2 [(0, .ref (ad (98))), (1, .int (iI ((to : Int))))] → W p l e ({ frames := 4, cells := 0, slots := 0, locals := 106 } : Room) s m ([.ref (ad (98)), .int (iI ((to : Int)))]).toArray below meth c H locs 0 0 Q (F0 m 50 ls []) := by
      intro pz qz F50 H locs ls hp0 hq0 hq1 hmp hmq hfr hO N32 N33 hRn hw hl
      refine lv_aload_n hx hb d_M_lay_50 rfl (lv_at hl 0 rfl) ?_
      refine wz_bipush (n := 32) hx hb d_M_lay_51 (by decide) ?_
      refine wz_bipush (n := 33) hx hb d_M_lay_53 (by decide) ?_
      refine pw_callv hw (va_runV (As := [.int (iI (32)), .int (iI (33))]) (rest := []) ⟨hx, hb, hml, hown, hq⟩ (c_M_common l D ty ad M F50 H.size hM (co) (ln) (wr) hO (32) (33) (pz) ((qz : Int)) (by omega) (by omega) (by omega) (by omega) N32 N33 (hmp) (hmq)) (cwV 2 hq (gV ml_M_79 im_M_common se_M_common in_M m_M_common) rfl rfl rfl (by decide +kernel) ⟨Nat.le_of_ble_eq_true rfl, Nat.le_of_ble_eq_true rfl⟩) (pw_preV hw (by omega) hO rfl) rfl rfl hl.1 rfl (lv_room (Nat.le_of_ble_eq_true rfl)) d_M_lay_55 ⟨Nat.le_of_ble_eq_true rfl, Nat.le_of_ble_eq_true rfl⟩) (fun F55 H locs q55 hw => ?_)
      obtain ⟨N34, hk55, hf55⟩ := q55
      obtain ⟨d, hd⟩ : ∃ d, d = Nat.gcd pz.natAbs qz := ⟨_, rfl⟩
      replace N34 : Nm ty F55 34 (d : Int) := by rw [hd]; exact N34
      have hd0 : 0 < d := by rw [hd]; exact Nat.gcd_pos_of_pos_right _ hq1
      have hmd : md (Int.natAbs (d : Int)) := hmq.le (by rw [Int.natAbs_natCast, hd]; exact Nat.gcd_le_right _ hq1)
      have hO_at_55 : F55 (98) = .inr (6, [.int (iI (co)), .ref (ad (99)), .ref (ad (100)), .ref (ad (101)), .ref (ad (102)), .int (iI (ln)), .int (iI (wr)), .ref (ad (103))]) := (hf55 (98) (by omega) (by omega) (by omega)).trans hO
      have N32_at_55 : Nm ty F55 (32) (pz) := hk55 _ _ (by omega) (by first | omega | (dsimp only; omega)) N32
      have N33_at_55 : Nm ty F55 (33) ((qz : Int)) := hk55 _ _ (by omega) (by first | omega | (dsimp only; omega)) N33
      have hRn_at_55 : Rn ty F55 (g) := hRn.kq hk55 (fun c9 h8 h9 => by first | omega | (dsimp only at h9; omega))
      refine lv_aload_n hx hb d_M_lay_58 rfl (lv_at hl 0 rfl) ?_
      refine wz_bipush (n := 42) hx hb d_M_lay_59 (by decide) ?_
      refine wz_bipush (n := 34) hx hb d_M_lay_61 (by decide) ?_
      refine pw_callv hw (va_runV (As := [.int (iI (42)), .int (iI (34))]) (rest := []) ⟨hx, hb, hml, hown, hq⟩ (c_M_copy l D ty ad M F55 H.size hM (co) (ln) (wr) hO_at_55 (42) (34) (by omega) (by omega) (by omega) ((d : Int)) N34) (cwV 2 hq (gV ml_M_55 im_M_copy se_M_copy in_M m_M_copy) rfl rfl rfl (by decide +kernel) ⟨Nat.le_of_ble_eq_true rfl, Nat.le_of_ble_eq_true rfl⟩) (pw_preV hw (by omega) hO_at_55 rfl) rfl rfl hl.1 rfl (lv_room (Nat.le_of_ble_eq_true rfl)) d_M_lay_63 ⟨Nat.le_of_ble_eq_true rfl, Nat.le_of_ble_eq_true rfl⟩) (fun F63 H locs q63 hw => ?_)
      obtain ⟨N42, hk63, hf63⟩ := q63
      have hO_at_63 : F63 (98) = .inr (6, [.int (iI (co)), .ref (ad (99)), .ref (ad (100)), .ref (ad (101)), .ref (ad (102)), .int (iI (ln)), .int (iI (wr)), .ref (ad (103))]) := (hf63 (98) (by omega) (by omega) (by omega)).trans hO_at_55
      have N32_at_63 : Nm ty F63 (32) (pz) := hk63 _ _ (by omega) (by first | omega | (dsimp only; omega)) N32_at_55
      have N33_at_63 : Nm ty F63 (33) ((qz : Int)) := hk63 _ _ (by omega) (by first | omega | (dsimp only; omega)) N33_at_55
      have hRn_at_63 : Rn ty F63 (g) := hRn_at_55.kq hk63 (fun c9 h8 h9 => by first | omega | (dsimp only at h9; omega))
      have N34_at_63 : Nm ty F63 (34) ((d : Int)) := hk63 _ _ (by omega) (by first | omega | (dsimp only; omega)) N34
      refine lv_aload_n hx hb d_M_lay_66 rfl (lv_at hl 0 rfl) ?_
      refine wz_bipush (n := 32) hx hb d_M_lay_67 (by decide) ?_
      refine wz_bipush (n := 42) hx hb d_M_lay_69 (by decide) ?_
      refine pw_callv hw (va_runV (As := [.int (iI (32)), .int (iI (42))]) (rest := []) ⟨hx, hb, hml, hown, hq⟩ (c_M_divide l D ty ad M F63 H.size hM (co) (ln) (wr) hO_at_63 (32) (42) (pz) ((d : Int)) (by omega) (by omega) (by omega) (by omega) (by omega) N32_at_63 N42 (hmp) (hmd)) (cwV 2 hq (gV ml_M_72 im_M_divide se_M_divide in_M m_M_divide) rfl rfl rfl (by decide +kernel) ⟨Nat.le_of_ble_eq_true rfl, Nat.le_of_ble_eq_true rfl⟩) (pw_preV hw (by omega) hO_at_63 rfl) rfl rfl hl.1 rfl (lv_room (Nat.le_of_ble_eq_true rfl)) d_M_lay_71 ⟨Nat.le_of_ble_eq_true rfl, Nat.le_of_ble_eq_true rfl⟩) (fun F71 H locs q71 hw => ?_)
      obtain ⟨N37, N36, hk71, hf71⟩ := q71
      have hO_at_71 : F71 (98) = .inr (6, [.int (iI (co)), .ref (ad (99)), .ref (ad (100)), .ref (ad (101)), .ref (ad (102)), .int (iI (ln)), .int (iI (wr)), .ref (ad (103))]) := (hf71 (98) (by omega) (by omega) (by omega)).trans hO_at_63
      have N32_at_71 : Nm ty F71 (32) (pz) := hk71 _ _ (by omega) (by first | omega | (dsimp only; omega)) N32_at_63
      have N33_at_71 : Nm ty F71 (33) ((qz : Int)) := hk71 _ _ (by omega) (by first | omega | (dsimp only; omega)) N33_at_63
      have hRn_at_71 : Rn ty F71 (g) := hRn_at_63.kq hk71 (fun c9 h8 h9 => by first | omega | (dsimp only at h9; omega))
      have N34_at_71 : Nm ty F71 (34) ((d : Int)) := hk71 _ _ (by omega) (by first | omega | (dsimp only; omega)) N34_at_63
      have N42_at_71 : Nm ty F71 (42) ((d : Int)) := hk71 _ _ (by omega) (by first | omega | (dsimp only; omega)) N42
      refine lv_aload_n hx hb d_M_lay_74 rfl (lv_at hl 0 rfl) ?_
      refine wz_bipush (n := 32) hx hb d_M_lay_75 (by decide) ?_
      refine wz_bipush (n := 37) hx hb d_M_lay_77 (by decide) ?_
      refine pw_callv hw (va_runV (As := [.int (iI (32)), .int (iI (37))]) (rest := []) ⟨hx, hb, hml, hown, hq⟩ (c_M_copy l D ty ad M F71 H.size hM (co) (ln) (wr) hO_at_71 (32) (37) (by omega) (by omega) (by omega) (Int.tdiv pz (d : Int)) N37) (cwV 2 hq (gV ml_M_55 im_M_copy se_M_copy in_M m_M_copy) rfl rfl rfl (by decide +kernel) ⟨Nat.le_of_ble_eq_true rfl, Nat.le_of_ble_eq_true rfl⟩) (pw_preV hw (by omega) hO_at_71 rfl) rfl rfl hl.1 rfl (lv_room (Nat.le_of_ble_eq_true rfl)) d_M_lay_79 ⟨Nat.le_of_ble_eq_true rfl, Nat.le_of_ble_eq_true rfl⟩) (fun F79 H locs q79 hw => ?_)
      obtain ⟨N32, hk79, hf79⟩ := q79
      have hO_at_79 : F79 (98) = .inr (6, [.int (iI (co)), .ref (ad (99)), .ref (ad (100)), .ref (ad (101)), .ref (ad (102)), .int (iI (ln)), .int (iI (wr)), .ref (ad (103))]) := (hf79 (98) (by omega) (by omega) (by omega)).trans hO_at_71
      have N33_at_79 : Nm ty F79 (33) ((qz : Int)) := hk79 _ _ (by omega) (by first | omega | (dsimp only; omega)) N33_at_71
      have hRn_at_79 : Rn ty F79 (g) := hRn_at_71.kq hk79 (fun c9 h8 h9 => by first | omega | (dsimp only at h9; omega))
      have N34_at_79 : Nm ty F79 (34) ((d : Int)) := hk79 _ _ (by omega) (by first | omega | (dsimp only; omega)) N34_at_71
      have N42_at_79 : Nm ty F79 (42) ((d : Int)) := hk79 _ _ (by omega) (by first | omega | (dsimp only; omega)) N42_at_71
      have N37_at_79 : Nm ty F79 (37) (Int.tdiv pz (d : Int)) := hk79 _ _ (by omega) (by first | omega | (dsimp only; omega)) N37
      have N36_at_79 : Nm ty F79 (36) (Int.tmod pz (d : Int)) := hk79 _ _ (by omega) (by first | omega | (dsimp only; omega)) N36
      refine lv_aload_n hx hb d_M_lay_82 rfl (lv_at hl 0 rfl) ?_
      refine wz_bipush (n := 33) hx hb d_M_lay_83 (by decide) ?_
      refine wz_bipush (n := 42) hx hb d_M_lay_85 (by decide) ?_
      refine pw_callv hw (va_runV (As := [.int (iI (33)), .int (iI (42))]) (rest := []) ⟨hx, hb, hml, hown, hq⟩ (c_M_divide l D ty ad M F79 H.size hM (co) (ln) (wr) hO_at_79 (33) (42) ((qz : Int)) ((d : Int)) (by omega) (by omega) (by omega) (by omega) (by omega) N33_at_79 N42_at_79 (hmq) (hmd)) (cwV 2 hq (gV ml_M_72 im_M_divide se_M_divide in_M m_M_divide) rfl rfl rfl (by decide +kernel) ⟨Nat.le_of_ble_eq_true rfl, Nat.le_of_ble_eq_true rfl⟩) (pw_preV hw (by omega) hO_at_79 rfl) rfl rfl hl.1 rfl (lv_room (Nat.le_of_ble_eq_true rfl)) d_M_lay_87 ⟨Nat.le_of_ble_eq_true rfl, Nat.le_of_ble_eq_true rfl⟩) (fun F87 H locs q87 hw => ?_)
      obtain ⟨N37, N36, hk87, hf87⟩ := q87
      have hO_at_87 : F87 (98) = .inr (6, [.int (iI (co)), .ref (ad (99)), .ref (ad (100)), .ref (ad (101)), .ref (ad (102)), .int (iI (ln)), .int (iI (wr)), .ref (ad (103))]) := (hf87 (98) (by omega) (by omega) (by omega)).trans hO_at_79
      have N33_at_87 : Nm ty F87 (33) ((qz : Int)) := hk87 _ _ (by omega) (by first | omega | (dsimp only; omega)) N33_at_79
      have hRn_at_87 : Rn ty F87 (g) := hRn_at_79.kq hk87 (fun c9 h8 h9 => by first | omega | (dsimp only at h9; omega))
      have N34_at_87 : Nm ty F87 (34) ((d : Int)) := hk87 _ _ (by omega) (by first | omega | (dsimp only; omega)) N34_at_79
      have N42_at_87 : Nm ty F87 (42) ((d : Int)) := hk87 _ _ (by omega) (by first | omega | (dsimp only; omega)) N42_at_79
      have N32_at_87 : Nm ty F87 (32) (Int.tdiv pz (d : Int)) := hk87 _ _ (by omega) (by first | omega | (dsimp only; omega)) N32
      refine lv_aload_n hx hb d_M_lay_90 rfl (lv_at hl 0 rfl) ?_
      refine wz_bipush (n := 33) hx hb d_M_lay_91 (by decide) ?_
      refine wz_bipush (n := 37) hx hb d_M_lay_93 (by decide) ?_
      refine pw_callv hw (va_runV (As := [.int (iI (33)), .int (iI (37))]) (rest := []) ⟨hx, hb, hml, hown, hq⟩ (c_M_copy l D ty ad M F87 H.size hM (co) (ln) (wr) hO_at_87 (33) (37) (by omega) (by omega) (by omega) (Int.tdiv (qz : Int) (d : Int)) N37) (cwV 2 hq (gV ml_M_55 im_M_copy se_M_copy in_M m_M_copy) rfl rfl rfl (by decide +kernel) ⟨Nat.le_of_ble_eq_true rfl, Nat.le_of_ble_eq_true rfl⟩) (pw_preV hw (by omega) hO_at_87 rfl) rfl rfl hl.1 rfl (lv_room (Nat.le_of_ble_eq_true rfl)) d_M_lay_95 ⟨Nat.le_of_ble_eq_true rfl, Nat.le_of_ble_eq_true rfl⟩) (fun F95 H locs q95 hw => ?_)
      obtain ⟨N33, hk95, hf95⟩ := q95
      have hO_at_95 : F95 (98) = .inr (6, [.int (iI (co)), .ref (ad (99)), .ref (ad (100)), .ref (ad (101)), .ref (ad (102)), .int (iI (ln)), .int (iI (wr)), .ref (ad (103))]) := (hf95 (98) (by omega) (by omega) (by omega)).trans hO_at_87
      have hRn_at_95 : Rn ty F95 (g) := hRn_at_87.kq hk95 (fun c9 h8 h9 => by first | omega | (dsimp only at h9; omega))
      have N34_at_95 : Nm ty F95 (34) ((d : Int)) := hk95 _ _ (by omega) (by first | omega | (dsimp only; omega)) N34_at_87
      have N42_at_95 : Nm ty F95 (42) ((d : Int)) := hk95 _ _ (by omega) (by first | omega | (dsimp only; omega)) N42_at_87
      have N32_at_95 : Nm ty F95 (32) (Int.tdiv pz (d : Int)) := hk95 _ _ (by omega) (by first | omega | (dsimp only; omega)) N32_at_87
      have N37_at_95 : Nm ty F95 (37) (Int.tdiv (qz : Int) (d : Int)) := hk95 _ _ (by omega) (by first | omega | (dsimp only; omega)) N37
      have N36_at_95 : Nm ty F95 (36) (Int.tmod (qz : Int) (d : Int)) := hk95 _ _ (by omega) (by first | omega | (dsimp only; omega)) N36
      refine lv_aload_n hx hb d_M_lay_98 rfl (lv_at hl 0 rfl) ?_
      refine pw_get (ci := 6) (C := R_M) (T := T_M) (N := 8) hx hb hq i_M hown hw (by omega) hO_at_95 rfl 2 (by decide) (hq _ fl_M_13) (fun _ h9 => h9) rfl d_M_lay_99 ?_
      refine wz_bipush (n := 32) hx hb d_M_lay_102 (by decide) ?_
      obtain ⟨P104, S104, G104, ⟨a104_99, a104_100, a104_101⟩, ⟨n1, hS104, h3104, hD104, ht104, hv104⟩, hG104⟩ := id N32_at_95
      have hz104 := bvP_z ht104
      rw [hv104] at hz104
      refine pw_iald (k := 32) hx hb hw 0 (by omega) a104_100 rfl (iI_in (by omega) (by omega) (by omega)) ((iI_cl (by omega) (by omega)).trans (by omega)) d_M_lay_104 ?_
      refine lv_topi (fun x104 ex104 => ?_)
      obtain rfl : x104 = iI ((n1 : Int)) := ex104.trans (hS104)
      have hsm104 := sm_n hD104 ht104 hv104
      refine wz_sipush (n := 128) hx hb d_M_lay_105 (by decide) ?_
      refine wz_icmp_gt (tgt := 124) hx hb d_M_lay_108 (by decide) (by omega) (by omega) (by omega) (by omega) (fun c108 => ?_) (fun c108 => ?_)
      · have hbig : ¬ (sm (Int.tdiv pz (d : Int)).natAbs ∧ sm (qz / d)) := fun h9 => by have := hsm104.mpr h9.1; omega
        refine wz_iconst (n := -1) hx hb d_M_lay_124 ?_
        rw [← hQ]
        exact pw_iret hx hb hr hlocks hw (by
          rw [← hp0, ← hq0, s_lay_big hd hbig]
          exact ⟨rfl, hRn_at_95, fun y9 h1 h2 h3 => ((hf95 (y9) (by omega) (by omega) (by omega)).trans ((hf87 (y9) (by omega) (by omega) (by omega)).trans ((hf79 (y9) (by omega) (by omega) (by omega)).trans ((hf71 (y9) (by omega) (by omega) (by omega)).trans ((hf63 (y9) (by omega) (by omega) (by omega)).trans (hf55 (y9) (by omega) (by omega) (by omega))))))).trans (hfr y9 h1 h2 h3)⟩) d_M_lay_125
      · have hok1 := hsm104.mp (by omega)
        refine lv_aload_n hx hb d_M_lay_111 rfl (lv_at hl 0 rfl) ?_
        refine pw_get (ci := 6) (C := R_M) (T := T_M) (N := 8) hx hb hq i_M hown hw (by omega) hO_at_95 rfl 2 (by decide) (hq _ fl_M_13) (fun _ h9 => h9) rfl d_M_lay_112 ?_
        refine wz_bipush (n := 33) hx hb d_M_lay_115 (by decide) ?_
        obtain ⟨P117, S117, G117, ⟨a117_99, a117_100, a117_101⟩, ⟨n2, hS117, h3117, hD117, ht117, hv117⟩, hG117⟩ := id N33
        have hz117 := bvP_z ht117
        rw [hv117] at hz117
        refine pw_iald (k := 33) hx hb hw 0 (by omega) a117_100 rfl (iI_in (by omega) (by omega) (by omega)) ((iI_cl (by omega) (by omega)).trans (by omega)) d_M_lay_117 ?_
        refine lv_topi (fun x117 ex117 => ?_)
        obtain rfl : x117 = iI ((n2 : Int)) := ex117.trans (hS117)
        have hsm117 := sm_n hD117 ht117 hv117
        refine wz_sipush (n := 128) hx hb d_M_lay_118 (by decide) ?_
        refine wz_icmp_le (tgt := 126) hx hb d_M_lay_121 (by decide) (by omega) (by omega) (by omega) (by omega) (fun c121 => ?_) (fun c121 => ?_)
        · have hok2 : sm (qz / d) := hsm117.mp (by omega)
          refine lv_aload_n hx hb d_M_lay_126 rfl (lv_at hl 0 rfl) ?_
          refine lv_iload_n hx hb d_M_lay_127 rfl (lv_at hl 1 rfl) ?_
          refine wz_bipush (n := 32) hx hb d_M_lay_128 (by decide) ?_
          refine pw_callv hw (va_runV (As := [.int (iI ((to : Int))), .int (iI (32))]) (rest := []) ⟨hx, hb, hml, hown, hq⟩ (c_M_copy l D ty ad M F95 H.size hM (co) (ln) (wr) hO_at_95 (to) (32) (by omega) (by omega) (by omega) (Int.tdiv pz (d : Int)) N32_at_95) (cwV 2 hq (gV ml_M_55 im_M_copy se_M_copy in_M m_M_copy) rfl rfl rfl (by decide +kernel) ⟨Nat.le_of_ble_eq_true rfl, Nat.le_of_ble_eq_true rfl⟩) (pw_preV hw (by omega) hO_at_95 rfl) rfl rfl hl.1 rfl (lv_room (Nat.le_of_ble_eq_true rfl)) d_M_lay_130 ⟨Nat.le_of_ble_eq_true rfl, Nat.le_of_ble_eq_true rfl⟩) (fun F130 H locs q130 hw => ?_)
          obtain ⟨Nto, hk130, hf130⟩ := q130
          have hO_at_130 : F130 (98) = .inr (6, [.int (iI (co)), .ref (ad (99)), .ref (ad (100)), .ref (ad (101)), .ref (ad (102)), .int (iI (ln)), .int (iI (wr)), .ref (ad (103))]) := (hf130 (98) (by omega) (by omega) (by omega)).trans hO_at_95
          have N34_at_130 : Nm ty F130 (34) ((d : Int)) := hk130 _ _ (by omega) (by first | omega | (dsimp only; omega)) N34_at_95
          have N42_at_130 : Nm ty F130 (42) ((d : Int)) := hk130 _ _ (by omega) (by first | omega | (dsimp only; omega)) N42_at_95
          have N32_at_130 : Nm ty F130 (32) (Int.tdiv pz (d : Int)) := hk130 _ _ (by omega) (by first | omega | (dsimp only; omega)) N32_at_95
          have N37_at_130 : Nm ty F130 (37) (Int.tdiv (qz : Int) (d : Int)) := hk130 _ _ (by omega) (by first | omega | (dsimp only; omega)) N37_at_95
          have N36_at_130 : Nm ty F130 (36) (Int.tmod (qz : Int) (d : Int)) := hk130 _ _ (by omega) (by first | omega | (dsimp only; omega)) N36_at_95
          have N33_at_130 : Nm ty F130 (33) (Int.tdiv (qz : Int) (d : Int)) := hk130 _ _ (by omega) (by first | omega | (dsimp only; omega)) N33
          refine lv_aload_n hx hb d_M_lay_133 rfl (lv_at hl 0 rfl) ?_
          refine lv_iload_n hx hb d_M_lay_134 rfl (lv_at hl 1 rfl) ?_
          refine pw_calli hw (va_runS (As := [.int (iI ((to : Int)))]) (rest := [.ref (ad (98))]) ⟨hx, hb, hml, hown, hq⟩ (c_M_below l D ty ad M F130 H.size (to) (by omega)) (va_cwS 1 hq (gS ml_M_82 st_M_below in_M m_M_below) rfl rfl rfl (by decide +kernel) ⟨Nat.le_of_ble_eq_true rfl, Nat.le_of_ble_eq_true rfl⟩) (pw_preS hw) rfl rfl hl.1 rfl (lv_room (Nat.le_of_ble_eq_true rfl)) d_M_lay_135 ⟨Nat.le_of_ble_eq_true rfl, Nat.le_of_ble_eq_true rfl⟩) (fun r135 F135 H locs q135 hw => ?_)
          obtain ⟨er135, eF135⟩ := q135
          rw [eF135] at hw
          clear eF135
          subst er135
          refine wz_bipush (n := 33) hx hb d_M_lay_138 (by decide) ?_
          refine pw_callv hw (va_runV (As := [.int (iI (((16 + to : Nat) : Int))), .int (iI (33))]) (rest := []) ⟨hx, hb, hml, hown, hq⟩ (c_M_copy l D ty ad M F130 H.size hM (co) (ln) (wr) hO_at_130 (16 + to) (33) (by omega) (by omega) (by omega) (Int.tdiv (qz : Int) (d : Int)) N33_at_130) (cwV 2 hq (gV ml_M_55 im_M_copy se_M_copy in_M m_M_copy) rfl rfl rfl (by decide +kernel) ⟨Nat.le_of_ble_eq_true rfl, Nat.le_of_ble_eq_true rfl⟩) (pw_preV hw (by omega) hO_at_130 rfl) rfl rfl hl.1 rfl (lv_room (Nat.le_of_ble_eq_true rfl)) d_M_lay_140 ⟨Nat.le_of_ble_eq_true rfl, Nat.le_of_ble_eq_true rfl⟩) (fun F140 H locs q140 hw => ?_)
          obtain ⟨N16to, hk140, hf140⟩ := q140
          have hO_at_140 : F140 (98) = .inr (6, [.int (iI (co)), .ref (ad (99)), .ref (ad (100)), .ref (ad (101)), .ref (ad (102)), .int (iI (ln)), .int (iI (wr)), .ref (ad (103))]) := (hf140 (98) (by omega) (by omega) (by omega)).trans hO_at_130
          have N34_at_140 : Nm ty F140 (34) ((d : Int)) := hk140 _ _ (by omega) (by first | omega | (dsimp only; omega)) N34_at_130
          have N42_at_140 : Nm ty F140 (42) ((d : Int)) := hk140 _ _ (by omega) (by first | omega | (dsimp only; omega)) N42_at_130
          have N32_at_140 : Nm ty F140 (32) (Int.tdiv pz (d : Int)) := hk140 _ _ (by omega) (by first | omega | (dsimp only; omega)) N32_at_130
          have N37_at_140 : Nm ty F140 (37) (Int.tdiv (qz : Int) (d : Int)) := hk140 _ _ (by omega) (by first | omega | (dsimp only; omega)) N37_at_130
          have N36_at_140 : Nm ty F140 (36) (Int.tmod (qz : Int) (d : Int)) := hk140 _ _ (by omega) (by first | omega | (dsimp only; omega)) N36_at_130
          have N33_at_140 : Nm ty F140 (33) (Int.tdiv (qz : Int) (d : Int)) := hk140 _ _ (by omega) (by first | omega | (dsimp only; omega)) N33_at_130
          have Nto_at_140 : Nm ty F140 (to) (Int.tdiv pz (d : Int)) := hk140 _ _ (by omega) (by first | omega | (dsimp only; omega)) Nto
          refine wz_iconst (n := 0) hx hb d_M_lay_143 ?_
          rw [← hQ]
          exact pw_iret hx hb hr hlocks hw (by
            rw [← hp0, ← hq0, s_lay_put hd hok1 hok2]
            exact ⟨rfl, hRn_at_95.put hto Nto hk130 N16to hk140, fun y9 h1 h2 h3 => ((hf140 (y9) (by omega) (by omega) (by omega)).trans ((hf130 (y9) (by omega) (by omega) (by omega)).trans ((hf95 (y9) (by omega) (by omega) (by omega)).trans ((hf87 (y9) (by omega) (by omega) (by omega)).trans ((hf79 (y9) (by omega) (by omega) (by omega)).trans ((hf71 (y9) (by omega) (by omega) (by omega)).trans ((hf63 (y9) (by omega) (by omega) (by omega)).trans (hf55 (y9) (by omega) (by omega) (by omega))))))))).trans (hfr y9 h1 h2 h3)⟩) d_M_lay_144
        · have hbig : ¬ (sm (Int.tdiv pz (d : Int)).natAbs ∧ sm (qz / d)) := fun h9 => by have := hsm117.mpr h9.2; omega
          refine wz_iconst (n := -1) hx hb d_M_lay_124 ?_
          rw [← hQ]
          exact pw_iret hx hb hr hlocks hw (by
            rw [← hp0, ← hq0, s_lay_big hd hbig]
            exact ⟨rfl, hRn_at_95, fun y9 h1 h2 h3 => ((hf95 (y9) (by omega) (by omega) (by omega)).trans ((hf87 (y9) (by omega) (by omega) (by omega)).trans ((hf79 (y9) (by omega) (by omega) (by omega)).trans ((hf71 (y9) (by omega) (by omega) (by omega)).trans ((hf63 (y9) (by omega) (by omega) (by omega)).trans (hf55 (y9) (by omega) (by omega) (by omega))))))).trans (hfr y9 h1 h2 h3)⟩) d_M_lay_125
    refine lv_aload_n hx hb d_M_lay_0 rfl (lv_at hl 0 rfl) ?_
    refine pw_get (ci := 6) (C := R_M) (T := T_M) (N := 8) hx hb hq i_M hown hw (by omega) hO rfl 3 (by decide) (hq _ fl_M_16) (fun _ h9 => h9) rfl d_M_lay_1 ?_
    refine wz_bipush (n := 33) hx hb d_M_lay_4 (by decide) ?_
    obtain ⟨P6, S6, G6, ⟨a6_99, a6_100, a6_101⟩, ⟨n6, hS6, h36, hD6, ht6, hv6⟩, hG6⟩ := id N33
    have hs6 := sB_c zq
    refine pw_zald (k := 33) hx hb hw 4 (by omega) a6_101 rfl (iI_in (by omega) (by omega) (by omega)) ((iI_cl (by omega) (by omega)).trans (by omega)) d_M_lay_6 ?_
    refine lv_topi (fun x6 ex6 => ?_)
    obtain rfl : x6 = iI ((sB zq : Int)) := ex6.trans (hG6)
    refine wz_if_eq (tgt := 50) hx hb d_M_lay_7 (by decide) (by omega) (by omega) (fun c7 => ?_) (fun c7 => ?_)
    · exact K50 zp zq.natAbs _ _ _ ls ((flz_n (by omega)).symm) (rfl) (by omega) (hmp0) (hmq0) (fun y9 h1 h2 h3 => rfl) (hO) (N32) (by rw [show ((Int.natAbs zq : Nat) : Int) = zq by omega]; exact N33) (hRn) hw hl
    · refine lv_aload_n hx hb d_M_lay_10 rfl (lv_at hl 0 rfl) ?_
      refine pw_get (ci := 6) (C := R_M) (T := T_M) (N := 8) hx hb hq i_M hown hw (by omega) hO rfl 3 (by decide) (hq _ fl_M_16) (fun _ h9 => h9) rfl d_M_lay_11 ?_
      refine wz_bipush (n := 33) hx hb d_M_lay_14 (by decide) ?_
      refine wz_iconst (n := 0) hx hb d_M_lay_16 ?_
      refine pw_zast (k := 33) hx hb hw 4 (by omega) a6_101 rfl (iI_in (by omega) (by omega) (by omega)) ((iI_cl (by omega) (by omega)).trans (by omega)) (y := iI (0)) (by decide) d_M_lay_17 (fun F17 H locs eF17 hw => ?_)
      have m17_101 : F17 (101) = .inl (ty 4, 43, .inl (upd G6 (33) (iI (0)))) := by rw [eF17]; exact va_up_self ..
      obtain ⟨N33, hk17⟩ := Nm_sign (t := 33) (z' := ((Int.natAbs zq : Nat) : Int)) ⟨a6_99, a6_100, a6_101⟩ ⟨(show F17 (99) = F (99) from by rw [eF17]; exact va_up_ne _ _ (by omega)).trans a6_99, (show F17 (100) = F (100) from by rw [eF17]; exact va_up_ne _ _ (by omega)).trans a6_100, m17_101⟩ N33 (by omega) (by rw [zB_0 (by omega)]; rfl)
      have hO_at_17 : F17 (98) = .inr (6, [.int (iI (co)), .ref (ad (99)), .ref (ad (100)), .ref (ad (101)), .ref (ad (102)), .int (iI (ln)), .int (iI (wr)), .ref (ad (103))]) := (show F17 (98) = F (98) from by rw [eF17]; exact va_up_ne _ _ (by omega)).trans hO
      have N32_at_17 : Nm ty F17 (32) (zp) := hk17 _ _ (by omega) (by first | omega | (dsimp only; omega)) N32
      have hRn_at_17 : Rn ty F17 (g) := hRn.kq hk17 (fun c9 h8 h9 => by first | omega | (dsimp only at h9; omega))
      have a6_99_at_17 : F17 (99) = .inl (ty 0, 12900, .inl (P6)) := (show F17 (99) = F (99) from by rw [eF17]; exact va_up_ne _ _ (by omega)).trans a6_99
      have a6_100_at_17 : F17 (100) = .inl (ty 0, 43, .inl (S6)) := (show F17 (100) = F (100) from by rw [eF17]; exact va_up_ne _ _ (by omega)).trans a6_100
      refine lv_aload_n hx hb d_M_lay_18 rfl (lv_at hl 0 rfl) ?_
      refine pw_get (ci := 6) (C := R_M) (T := T_M) (N := 8) hx hb hq i_M hown hw (by omega) hO_at_17 rfl 3 (by decide) (hq _ fl_M_16) (fun _ h9 => h9) rfl d_M_lay_19 ?_
      refine wz_bipush (n := 32) hx hb d_M_lay_22 (by decide) ?_
      refine lv_aload_n hx hb d_M_lay_24 rfl (lv_at hl 0 rfl) ?_
      refine pw_get (ci := 6) (C := R_M) (T := T_M) (N := 8) hx hb hq i_M hown hw (by omega) hO_at_17 rfl 3 (by decide) (hq _ fl_M_16) (fun _ h9 => h9) rfl d_M_lay_25 ?_
      refine wz_bipush (n := 32) hx hb d_M_lay_28 (by decide) ?_
      obtain ⟨P30, S30, G30, ⟨a30_99, a30_100, a30_101⟩, ⟨n30, hS30, h330, hD30, ht30, hv30⟩, hG30⟩ := id N32_at_17
      have hs30 := sB_c zp
      refine pw_zald (k := 32) hx hb hw 4 (by omega) a30_101 rfl (iI_in (by omega) (by omega) (by omega)) ((iI_cl (by omega) (by omega)).trans (by omega)) d_M_lay_30 ?_
      refine lv_topi (fun x30 ex30 => ?_)
      obtain rfl : x30 = iI ((sB zp : Int)) := ex30.trans (hG30)
      refine wz_if_ne (tgt := 48) hx hb d_M_lay_31 (by decide) (by omega) (by omega) (fun c31 => ?_) (fun c31 => ?_)
      · refine wz_iconst (n := 0) hx hb d_M_lay_48 ?_
        refine pw_zast (k := 32) hx hb hw 4 (by omega) a30_101 rfl (iI_in (by omega) (by omega) (by omega)) ((iI_cl (by omega) (by omega)).trans (by omega)) (y := iI (0)) (by decide) d_M_lay_49 (fun F49 H locs eF49 hw => ?_)
        have m49_101 : F49 (101) = .inl (ty 4, 43, .inl (upd G30 (32) (iI (0)))) := by rw [eF49]; exact va_up_self ..
        obtain ⟨N32, hk49⟩ := Nm_sign (t := 32) (z' := -zp) ⟨a30_99, a30_100, a30_101⟩ ⟨(show F49 (99) = F17 (99) from by rw [eF49]; exact va_up_ne _ _ (by omega)).trans a30_99, (show F49 (100) = F17 (100) from by rw [eF49]; exact va_up_ne _ _ (by omega)).trans a30_100, m49_101⟩ N32_at_17 (by omega) (by rw [zB_0 (by omega)]; rfl)
        have hO_at_49 : F49 (98) = .inr (6, [.int (iI (co)), .ref (ad (99)), .ref (ad (100)), .ref (ad (101)), .ref (ad (102)), .int (iI (ln)), .int (iI (wr)), .ref (ad (103))]) := (show F49 (98) = F17 (98) from by rw [eF49]; exact va_up_ne _ _ (by omega)).trans hO_at_17
        have hRn_at_49 : Rn ty F49 (g) := hRn_at_17.kq hk49 (fun c9 h8 h9 => by first | omega | (dsimp only at h9; omega))
        have N33_at_49 : Nm ty F49 (33) (((Int.natAbs zq : Nat) : Int)) := hk49 _ _ (by omega) (by first | omega | (dsimp only; omega)) N33
        have a30_99_at_49 : F49 (99) = .inl (ty 0, 12900, .inl (P30)) := (show F49 (99) = F17 (99) from by rw [eF49]; exact va_up_ne _ _ (by omega)).trans a30_99
        have a30_100_at_49 : F49 (100) = .inl (ty 0, 43, .inl (S30)) := (show F49 (100) = F17 (100) from by rw [eF49]; exact va_up_ne _ _ (by omega)).trans a30_100
        exact K50 (-zp) zq.natAbs _ _ _ ls ((flz_p (by omega)).symm) (rfl) (by omega) (by rw [Int.natAbs_neg]; exact hmp0) (hmq0) (fun y9 h1 h2 h3 => (show F49 (y9) = F17 (y9) from by rw [eF49]; exact va_up_ne _ _ (by omega)).trans (show F17 (y9) = F (y9) from by rw [eF17]; exact va_up_ne _ _ (by omega))) hO_at_49 N32 N33_at_49 hRn_at_49 hw hl
      · refine lv_aload_n hx hb d_M_lay_34 rfl (lv_at hl 0 rfl) ?_
        refine pw_get (ci := 6) (C := R_M) (T := T_M) (N := 8) hx hb hq i_M hown hw (by omega) hO_at_17 rfl 2 (by decide) (hq _ fl_M_13) (fun _ h9 => h9) rfl d_M_lay_35 ?_
        refine wz_bipush (n := 32) hx hb d_M_lay_38 (by decide) ?_
        obtain ⟨P40, S40, G40, ⟨a40_99, a40_100, a40_101⟩, ⟨np, hS40, h340, hD40, ht40, hv40⟩, hG40⟩ := id N32_at_17
        have hz40 := bvP_z ht40
        rw [hv40] at hz40
        refine pw_iald (k := 32) hx hb hw 0 (by omega) a40_100 rfl (iI_in (by omega) (by omega) (by omega)) ((iI_cl (by omega) (by omega)).trans (by omega)) d_M_lay_40 ?_
        refine lv_topi (fun x40 ex40 => ?_)
        obtain rfl : x40 = iI ((np : Int)) := ex40.trans (hS40)
        refine wz_if_le (tgt := 48) hx hb d_M_lay_41 (by decide) (by omega) (by omega) (fun c41 => ?_) (fun c41 => ?_)
        · refine wz_iconst (n := 0) hx hb d_M_lay_48 ?_
          refine pw_zast (k := 32) hx hb hw 4 (by omega) a40_101 rfl (iI_in (by omega) (by omega) (by omega)) ((iI_cl (by omega) (by omega)).trans (by omega)) (y := iI (0)) (by decide) d_M_lay_49 (fun F49 H locs eF49 hw => ?_)
          have m49_101 : F49 (101) = .inl (ty 4, 43, .inl (upd G40 (32) (iI (0)))) := by rw [eF49]; exact va_up_self ..
          obtain ⟨N32, hk49⟩ := Nm_sign (t := 32) (z' := -zp) ⟨a40_99, a40_100, a40_101⟩ ⟨(show F49 (99) = F17 (99) from by rw [eF49]; exact va_up_ne _ _ (by omega)).trans a40_99, (show F49 (100) = F17 (100) from by rw [eF49]; exact va_up_ne _ _ (by omega)).trans a40_100, m49_101⟩ N32_at_17 (by omega) (by rw [zB_0 (by omega)]; rfl)
          have hO_at_49 : F49 (98) = .inr (6, [.int (iI (co)), .ref (ad (99)), .ref (ad (100)), .ref (ad (101)), .ref (ad (102)), .int (iI (ln)), .int (iI (wr)), .ref (ad (103))]) := (show F49 (98) = F17 (98) from by rw [eF49]; exact va_up_ne _ _ (by omega)).trans hO_at_17
          have hRn_at_49 : Rn ty F49 (g) := hRn_at_17.kq hk49 (fun c9 h8 h9 => by first | omega | (dsimp only at h9; omega))
          have N33_at_49 : Nm ty F49 (33) (((Int.natAbs zq : Nat) : Int)) := hk49 _ _ (by omega) (by first | omega | (dsimp only; omega)) N33
          have a40_99_at_49 : F49 (99) = .inl (ty 0, 12900, .inl (P40)) := (show F49 (99) = F17 (99) from by rw [eF49]; exact va_up_ne _ _ (by omega)).trans a40_99
          have a40_100_at_49 : F49 (100) = .inl (ty 0, 43, .inl (S40)) := (show F49 (100) = F17 (100) from by rw [eF49]; exact va_up_ne _ _ (by omega)).trans a40_100
          exact K50 (-zp) zq.natAbs _ _ _ ls ((flz_p (by omega)).symm) (rfl) (by omega) (by rw [Int.natAbs_neg]; exact hmp0) (hmq0) (fun y9 h1 h2 h3 => (show F49 (y9) = F17 (y9) from by rw [eF49]; exact va_up_ne _ _ (by omega)).trans (show F17 (y9) = F (y9) from by rw [eF17]; exact va_up_ne _ _ (by omega))) hO_at_49 N32 N33_at_49 hRn_at_49 hw hl
        · refine wz_iconst (n := 1) hx hb d_M_lay_44 ?_
          refine lv_goto (tgt := 49) hx hb d_M_lay_45 (by decide) ?_
          refine pw_zast (k := 32) hx hb hw 4 (by omega) a40_101 rfl (iI_in (by omega) (by omega) (by omega)) ((iI_cl (by omega) (by omega)).trans (by omega)) (y := iI (1)) (by decide) d_M_lay_49 (fun F49 H locs eF49 hw => ?_)
          have m49_101 : F49 (101) = .inl (ty 4, 43, .inl (upd G40 (32) (iI (1)))) := by rw [eF49]; exact va_up_self ..
          obtain ⟨N32, hk49⟩ := Nm_sign (t := 32) (z' := -zp) ⟨a40_99, a40_100, a40_101⟩ ⟨(show F49 (99) = F17 (99) from by rw [eF49]; exact va_up_ne _ _ (by omega)).trans a40_99, (show F49 (100) = F17 (100) from by rw [eF49]; exact va_up_ne _ _ (by omega)).trans a40_100, m49_101⟩ N32_at_17 (by omega) (by rw [zB_1 (by omega)]; rfl)
          have hO_at_49 : F49 (98) = .inr (6, [.int (iI (co)), .ref (ad (99)), .ref (ad (100)), .ref (ad (101)), .ref (ad (102)), .int (iI (ln)), .int (iI (wr)), .ref (ad (103))]) := (show F49 (98) = F17 (98) from by rw [eF49]; exact va_up_ne _ _ (by omega)).trans hO_at_17
          have hRn_at_49 : Rn ty F49 (g) := hRn_at_17.kq hk49 (fun c9 h8 h9 => by first | omega | (dsimp only at h9; omega))
          have N33_at_49 : Nm ty F49 (33) (((Int.natAbs zq : Nat) : Int)) := hk49 _ _ (by omega) (by first | omega | (dsimp only; omega)) N33
          have a40_99_at_49 : F49 (99) = .inl (ty 0, 12900, .inl (P40)) := (show F49 (99) = F17 (99) from by rw [eF49]; exact va_up_ne _ _ (by omega)).trans a40_99
          have a40_100_at_49 : F49 (100) = .inl (ty 0, 43, .inl (S40)) := (show F49 (100) = F17 (100) from by rw [eF49]; exact va_up_ne _ _ (by omega)).trans a40_100
          exact K50 (-zp) zq.natAbs _ _ _ ls ((flz_p (by omega)).symm) (rfl) (by omega) (by rw [Int.natAbs_neg]; exact hmp0) (hmq0) (fun y9 h1 h2 h3 => (show F49 (y9) = F17 (y9) from by rw [eF49]; exact va_up_ne _ _ (by omega)).trans (show F17 (y9) = F (y9) from by rw [eF17]; exact va_up_ne _ _ (by omega))) hO_at_49 N32 N33_at_49 hRn_at_49 hw hl
  rw [hH, hlo] at hgo
  exact hgo
set_option maxHeartbeats 4000000 in
set_option maxRecDepth 100000 in
/-- compare(a, b) -/
theorem c_M_compare (l : Launch) (D : va_G) (ty : Nat → ClassId) (ad : Nat → Nat) (M : Nat) (F : Nat → va_E) (sz : Nat) (hM : 103 < M) (co ln wr : Int) (hO : F 98 = oM ad co ln wr) (g : Sg) (a b1 : Nat) (ha : a < 16) (hb1 : b1 < 16) (hRn : Rn ty F g) (hok : okS g) :
    CI l y_M_compare w_M_compare ({ frames := 2, cells := 0, slots := 0, locals := 53 } : Room) [.ref (ad (98)), .int (iI ((a : Int))), .int (iI ((b1 : Int)))] D ty ad M F sz (fun r F1 => r = iI (cmpZ (zS g a * ((bS g b1 : Nat) : Int)) (zS g b1 * ((bS g a : Nat) : Int))) ∧ kp ty F F1 (fun c => c = 39 ∨ c = 40 ∨ c = 41) ∧ frM F F1) := by
  refine Met.ofW (cc := b_M_compare) (maxL := 3) (ret := (some .int)) (by decide) rfl ?_
  intro p e s m args below meth c s₁ B hml hv
  obtain ⟨rfl, hsz, hP, hK, hD0⟩ := hv
  have hx := B.exec
  have hb := B.bytes
  have hr := B.returns
  have hts := atoms_spec (ws := w_M_compare) B.pre
  have hq : ∀ w ∈ wT, w.before _ s = true := fun w h => hts w (List.mem_cons_of_mem _ h)
  have hown : s.vm.findClass R_M = some m.cls := findClass_of_methodNamed B.named
  have hlocks := B.notSynchronized
  subst hsz
  have hw := pw_start hP hK hD0
  have hl := lv_entry ([.ref (ad (98)), .int (iI ((a : Int))), .int (iI ((b1 : Int)))]) (n := 3) (Nat.le_of_ble_eq_true rfl)
  rw [lg_entry_eq]
  generalize (lg_sl ([.ref (ad (98)), .int (iI ((a : Int))), .int (iI ((b1 : Int)))]) ++ List.replicate (3 - (lg_sl ([.ref (ad (98)), .int (iI ((a : Int))), .int (iI ((b1 : Int)))])).length) Slot.unset).toArray = ls at hl ⊢
  have hl : lv_has ls 3 [(0, .ref (ad (98))), (1, .int (iI ((a : Int)))), (2, .int (iI ((b1 : Int))))] := hl
  change W p l e ({ frames := 2, cells := 0, slots := 0, locals := 53 } : Room) s m ([.ref (ad (98)), .int (iI ((a : Int))), .int (iI ((b1 : Int)))]).toArray below meth c s.heap [] 0 0 (MQ below (va_Qi (fun r F1 => r = iI (cmpZ (zS g a * ((bS g b1 : Nat) : Int)) (zS g b1 * ((bS g a : Nat) : Int))) ∧ kp ty F F1 (fun c => c = 39 ∨ c = 40 ∨ c = 41) ∧ frM F F1) (pAt D classes (tysL ty) ad M (pA ad M s.heap.size)) (pA ad M s.heap.size)) ([.ref (ad (98)), .int (iI ((a : Int))), .int (iI ((b1 : Int)))]).toArray s 0 0 (pA ad M s.heap.size)) (F0 m 0 ls [])
  generalize hQ : MQ below (va_Qi (fun r F1 => r = iI (cmpZ (zS g a * ((bS g b1 : Nat) : Int)) (zS g b1 * ((bS g a : Nat) : Int))) ∧ kp ty F F1 (fun c => c = 39 ∨ c = 40 ∨ c = 41) ∧ frM F F1) (pAt D classes (tysL ty) ad M (pA ad M s.heap.size)) (pA ad M s.heap.size)) ([.ref (ad (98)), .int (iI ((a : Int))), .int (iI ((b1 : Int)))]).toArray s 0 0 (pA ad M s.heap.size) = Q
  obtain ⟨H, hH⟩ : ∃ H, H = s.heap := ⟨_, rfl⟩
  obtain ⟨locs, hlo⟩ : ∃ z : List Loc, z = [] := ⟨_, rfl⟩
  have hw : pw D classes (tysL ty) ad M F (pA ad M s.heap.size) s H locs := by rw [hH, hlo]; exact hw
  have hgo : W p l e ({ frames := 2, cells := 0, slots := 0, locals := 53 } : Room) s m ([.ref (ad (98)), .int (iI ((a : Int))), .int (iI ((b1 : Int)))]).toArray below meth c H locs 0 0 Q (F0 m 0 ls []) := by
    have Na := (hRn a ha).1
    have N16a := (hRn a ha).2
    have Nb1 := (hRn b1 hb1).1
    have N16b1 := (hRn b1 hb1).2
    refine lv_aload_n hx hb d_M_compare_0 rfl (lv_at hl 0 rfl) ?_
    refine wz_bipush (n := 39) hx hb d_M_compare_1 (by decide) ?_
    refine lv_iload_n hx hb d_M_compare_3 rfl (lv_at hl 1 rfl) ?_
    refine lv_iload_n hx hb d_M_compare_4 rfl (lv_at hl 2 rfl) ?_
    refine pw_calli hw (va_runS (As := [.int (iI ((b1 : Int)))]) (rest := [.int (iI ((a : Int))), .int (iI (39)), .ref (ad (98))]) ⟨hx, hb, hml, hown, hq⟩ (c_M_below l D ty ad M F H.size (b1) (by omega)) (va_cwS 1 hq (gS ml_M_82 st_M_below in_M m_M_below) rfl rfl rfl (by decide +kernel) ⟨Nat.le_of_ble_eq_true rfl, Nat.le_of_ble_eq_true rfl⟩) (pw_preS hw) rfl rfl hl.1 rfl (lv_room (Nat.le_of_ble_eq_true rfl)) d_M_compare_5 ⟨Nat.le_of_ble_eq_true rfl, Nat.le_of_ble_eq_true rfl⟩) (fun r5 F5 H locs q5 hw => ?_)
    obtain ⟨er5, eF5⟩ := q5
    rw [eF5] at hw
    clear eF5
    subst er5
    refine pw_callv hw (va_runV (As := [.int (iI (39)), .int (iI ((a : Int))), .int (iI (((16 + b1 : Nat) : Int)))]) (rest := []) ⟨hx, hb, hml, hown, hq⟩ (c_M_times l D ty ad M F H.size hM (co) (ln) (wr) hO (39) (a) (16 + b1) (zS g a) (((bS g b1 : Nat) : Int)) (by omega) (by omega) (by omega) (by omega) (by omega) Na N16b1 ((hok.mm ha hb1).toMd)) (cwV 3 hq (gV ml_M_92 im_M_times se_M_times in_M m_M_times) rfl rfl rfl (by decide +kernel) ⟨Nat.le_of_ble_eq_true rfl, Nat.le_of_ble_eq_true rfl⟩) (pw_preV hw (by omega) hO rfl) rfl rfl hl.1 rfl (lv_room (Nat.le_of_ble_eq_true rfl)) d_M_compare_8 ⟨Nat.le_of_ble_eq_true rfl, Nat.le_of_ble_eq_true rfl⟩) (fun F8 H locs q8 hw => ?_)
    obtain ⟨N39, hk8, hf8⟩ := q8
    have hO_at_8 : F8 (98) = .inr (6, [.int (iI (co)), .ref (ad (99)), .ref (ad (100)), .ref (ad (101)), .ref (ad (102)), .int (iI (ln)), .int (iI (wr)), .ref (ad (103))]) := (hf8 (98) (by omega) (by omega) (by omega)).trans hO
    have Na_at_8 : Nm ty F8 (a) (zS g a) := hk8 _ _ (by omega) (by first | omega | (dsimp only; omega)) Na
    have N16a_at_8 : Nm ty F8 (16 + a) (((bS g a : Nat) : Int)) := hk8 _ _ (by omega) (by first | omega | (dsimp only; omega)) N16a
    have Nb1_at_8 : Nm ty F8 (b1) (zS g b1) := hk8 _ _ (by omega) (by first | omega | (dsimp only; omega)) Nb1
    have N16b1_at_8 : Nm ty F8 (16 + b1) (((bS g b1 : Nat) : Int)) := hk8 _ _ (by omega) (by first | omega | (dsimp only; omega)) N16b1
    have hRn_at_8 : Rn ty F8 (g) := hRn.kq hk8 (fun c9 h8 h9 => by first | omega | (dsimp only at h9; omega))
    refine lv_aload_n hx hb d_M_compare_11 rfl (lv_at hl 0 rfl) ?_
    refine wz_bipush (n := 40) hx hb d_M_compare_12 (by decide) ?_
    refine lv_iload_n hx hb d_M_compare_14 rfl (lv_at hl 2 rfl) ?_
    refine lv_iload_n hx hb d_M_compare_15 rfl (lv_at hl 1 rfl) ?_
    refine pw_calli hw (va_runS (As := [.int (iI ((a : Int)))]) (rest := [.int (iI ((b1 : Int))), .int (iI (40)), .ref (ad (98))]) ⟨hx, hb, hml, hown, hq⟩ (c_M_below l D ty ad M F8 H.size (a) (by omega)) (va_cwS 1 hq (gS ml_M_82 st_M_below in_M m_M_below) rfl rfl rfl (by decide +kernel) ⟨Nat.le_of_ble_eq_true rfl, Nat.le_of_ble_eq_true rfl⟩) (pw_preS hw) rfl rfl hl.1 rfl (lv_room (Nat.le_of_ble_eq_true rfl)) d_M_compare_16 ⟨Nat.le_of_ble_eq_true rfl, Nat.le_of_ble_eq_true rfl⟩) (fun r16 F16 H locs q16 hw => ?_)
    obtain ⟨er16, eF16⟩ := q16
    rw [eF16] at hw
    clear eF16
    subst er16
    refine pw_callv hw (va_runV (As := [.int (iI (40)), .int (iI ((b1 : Int))), .int (iI (((16 + a : Nat) : Int)))]) (rest := []) ⟨hx, hb, hml, hown, hq⟩ (c_M_times l D ty ad M F8 H.size hM (co) (ln) (wr) hO_at_8 (40) (b1) (16 + a) (zS g b1) (((bS g a : Nat) : Int)) (by omega) (by omega) (by omega) (by omega) (by omega) Nb1_at_8 N16a_at_8 ((hok.mm hb1 ha).toMd)) (cwV 3 hq (gV ml_M_92 im_M_times se_M_times in_M m_M_times) rfl rfl rfl (by decide +kernel) ⟨Nat.le_of_ble_eq_true rfl, Nat.le_of_ble_eq_true rfl⟩) (pw_preV hw (by omega) hO_at_8 rfl) rfl rfl hl.1 rfl (lv_room (Nat.le_of_ble_eq_true rfl)) d_M_compare_19 ⟨Nat.le_of_ble_eq_true rfl, Nat.le_of_ble_eq_true rfl⟩) (fun F19 H locs q19 hw => ?_)
    obtain ⟨N40, hk19, hf19⟩ := q19
    have hO_at_19 : F19 (98) = .inr (6, [.int (iI (co)), .ref (ad (99)), .ref (ad (100)), .ref (ad (101)), .ref (ad (102)), .int (iI (ln)), .int (iI (wr)), .ref (ad (103))]) := (hf19 (98) (by omega) (by omega) (by omega)).trans hO_at_8
    have Na_at_19 : Nm ty F19 (a) (zS g a) := hk19 _ _ (by omega) (by first | omega | (dsimp only; omega)) Na_at_8
    have N16a_at_19 : Nm ty F19 (16 + a) (((bS g a : Nat) : Int)) := hk19 _ _ (by omega) (by first | omega | (dsimp only; omega)) N16a_at_8
    have Nb1_at_19 : Nm ty F19 (b1) (zS g b1) := hk19 _ _ (by omega) (by first | omega | (dsimp only; omega)) Nb1_at_8
    have N16b1_at_19 : Nm ty F19 (16 + b1) (((bS g b1 : Nat) : Int)) := hk19 _ _ (by omega) (by first | omega | (dsimp only; omega)) N16b1_at_8
    have hRn_at_19 : Rn ty F19 (g) := hRn_at_8.kq hk19 (fun c9 h8 h9 => by first | omega | (dsimp only at h9; omega))
    have N39_at_19 : Nm ty F19 (39) ((zS g a) * ((bS g b1 : Nat) : Int)) := hk19 _ _ (by omega) (by first | omega | (dsimp only; omega)) N39
    refine lv_aload_n hx hb d_M_compare_22 rfl (lv_at hl 0 rfl) ?_
    refine wz_bipush (n := 41) hx hb d_M_compare_23 (by decide) ?_
    refine wz_bipush (n := 39) hx hb d_M_compare_25 (by decide) ?_
    refine wz_bipush (n := 40) hx hb d_M_compare_27 (by decide) ?_
    refine wz_iconst (n := 1) hx hb d_M_compare_29 ?_
    refine pw_callv hw (va_runV (As := [.int (iI (41)), .int (iI (39)), .int (iI (40)), .int (iI (1))]) (rest := []) ⟨hx, hb, hml, hown, hq⟩ (c_M_join l D ty ad M F19 H.size hM (co) (ln) (wr) hO_at_19 (41) (39) (40) 1 ((zS g a) * ((bS g b1 : Nat) : Int)) ((zS g b1) * ((bS g a : Nat) : Int)) (by omega) (by omega) (by omega) (by omega) N39_at_19 N40 (by rw [Int.natAbs_mul]; exact (hok.mm ha hb1).toMd) (by rw [Int.natAbs_mul]; exact (hok.mm hb1 ha).toMd)) (cwV 4 hq (gV ml_M_75 im_M_join se_M_join in_M m_M_join) rfl rfl rfl (by decide +kernel) ⟨Nat.le_of_ble_eq_true rfl, Nat.le_of_ble_eq_true rfl⟩) (pw_preV hw (by omega) hO_at_19 rfl) rfl rfl hl.1 rfl (lv_room (Nat.le_of_ble_eq_true rfl)) d_M_compare_30 ⟨Nat.le_of_ble_eq_true rfl, Nat.le_of_ble_eq_true rfl⟩) (fun F30 H locs q30 hw => ?_)
    obtain ⟨N41, hk30, hf30⟩ := q30
    have hO_at_30 : F30 (98) = .inr (6, [.int (iI (co)), .ref (ad (99)), .ref (ad (100)), .ref (ad (101)), .ref (ad (102)), .int (iI (ln)), .int (iI (wr)), .ref (ad (103))]) := (hf30 (98) (by omega) (by omega) (by omega)).trans hO_at_19
    have Na_at_30 : Nm ty F30 (a) (zS g a) := hk30 _ _ (by omega) (by first | omega | (dsimp only; omega)) Na_at_19
    have N16a_at_30 : Nm ty F30 (16 + a) (((bS g a : Nat) : Int)) := hk30 _ _ (by omega) (by first | omega | (dsimp only; omega)) N16a_at_19
    have Nb1_at_30 : Nm ty F30 (b1) (zS g b1) := hk30 _ _ (by omega) (by first | omega | (dsimp only; omega)) Nb1_at_19
    have N16b1_at_30 : Nm ty F30 (16 + b1) (((bS g b1 : Nat) : Int)) := hk30 _ _ (by omega) (by first | omega | (dsimp only; omega)) N16b1_at_19
    have hRn_at_30 : Rn ty F30 (g) := hRn_at_19.kq hk30 (fun c9 h8 h9 => by first | omega | (dsimp only at h9; omega))
    have N39_at_30 : Nm ty F30 (39) ((zS g a) * ((bS g b1 : Nat) : Int)) := hk30 _ _ (by omega) (by first | omega | (dsimp only; omega)) N39_at_19
    have N40_at_30 : Nm ty F30 (40) ((zS g b1) * ((bS g a : Nat) : Int)) := hk30 _ _ (by omega) (by first | omega | (dsimp only; omega)) N40
    refine lv_aload_n hx hb d_M_compare_33 rfl (lv_at hl 0 rfl) ?_
    refine pw_get (ci := 6) (C := R_M) (T := T_M) (N := 8) hx hb hq i_M hown hw (by omega) hO_at_30 rfl 2 (by decide) (hq _ fl_M_13) (fun _ h9 => h9) rfl d_M_compare_34 ?_
    refine wz_bipush (n := 41) hx hb d_M_compare_37 (by decide) ?_
    obtain ⟨P39, S39, G39, ⟨a39_99, a39_100, a39_101⟩, ⟨nw, hS39, h339, hD39, ht39, hv39⟩, hG39⟩ := id N41
    have hz39 := bvP_z ht39
    rw [hv39] at hz39
    refine pw_iald (k := 41) hx hb hw 0 (by omega) a39_100 rfl (iI_in (by omega) (by omega) (by omega)) ((iI_cl (by omega) (by omega)).trans (by omega)) d_M_compare_39 ?_
    refine lv_topi (fun x39 ex39 => ?_)
    obtain rfl : x39 = iI ((nw : Int)) := ex39.trans (hS39)
    refine wz_if_ne (tgt := 47) hx hb d_M_compare_40 (by decide) (by omega) (by omega) (fun c40 => ?_) (fun c40 => ?_)
    · refine lv_aload_n hx hb d_M_compare_47 rfl (lv_at hl 0 rfl) ?_
      refine pw_get (ci := 6) (C := R_M) (T := T_M) (N := 8) hx hb hq i_M hown hw (by omega) hO_at_30 rfl 3 (by decide) (hq _ fl_M_16) (fun _ h9 => h9) rfl d_M_compare_48 ?_
      refine wz_bipush (n := 41) hx hb d_M_compare_51 (by decide) ?_
      obtain ⟨P53, S53, G53, ⟨a53_99, a53_100, a53_101⟩, ⟨n53, hS53, h353, hD53, ht53, hv53⟩, hG53⟩ := id N41
      have hs53 := sB_c (jz 1 ((zS g a) * ((bS g b1 : Nat) : Int)) ((zS g b1) * ((bS g a : Nat) : Int)))
      refine pw_zald (k := 41) hx hb hw 4 (by omega) a53_101 rfl (iI_in (by omega) (by omega) (by omega)) ((iI_cl (by omega) (by omega)).trans (by omega)) d_M_compare_53 ?_
      refine lv_topi (fun x53 ex53 => ?_)
      obtain rfl : x53 = iI ((sB (jz 1 ((zS g a) * ((bS g b1 : Nat) : Int)) ((zS g b1) * ((bS g a : Nat) : Int))) : Int)) := ex53.trans (hG53)
      refine wz_if_eq (tgt := 61) hx hb d_M_compare_54 (by decide) (by omega) (by omega) (fun c54 => ?_) (fun c54 => ?_)
      · refine wz_iconst (n := 1) hx hb d_M_compare_61 ?_
        have hj := jz1 (zS g a * ((bS g b1 : Nat) : Int)) (zS g b1 * ((bS g a : Nat) : Int))
        rw [← hQ]
        exact pw_iret hx hb hr hlocks hw (⟨cmpZ_p (by omega), (((hk8).trans hk19).trans hk30).weak (fun c9 _ h9 => by first | omega | (dsimp only at h9 ⊢; omega)), fun y9 h1 h2 h3 => (hf30 (y9) (by omega) (by omega) (by omega)).trans ((hf19 (y9) (by omega) (by omega) (by omega)).trans (hf8 (y9) (by omega) (by omega) (by omega)))⟩) d_M_compare_62
      · refine wz_iconst (n := -1) hx hb d_M_compare_57 ?_
        refine lv_goto (tgt := 62) hx hb d_M_compare_58 (by decide) ?_
        have hj := jz1 (zS g a * ((bS g b1 : Nat) : Int)) (zS g b1 * ((bS g a : Nat) : Int))
        rw [← hQ]
        exact pw_iret hx hb hr hlocks hw (⟨cmpZ_m (by omega), (((hk8).trans hk19).trans hk30).weak (fun c9 _ h9 => by first | omega | (dsimp only at h9 ⊢; omega)), fun y9 h1 h2 h3 => (hf30 (y9) (by omega) (by omega) (by omega)).trans ((hf19 (y9) (by omega) (by omega) (by omega)).trans (hf8 (y9) (by omega) (by omega) (by omega)))⟩) d_M_compare_62
    · refine wz_iconst (n := 0) hx hb d_M_compare_43 ?_
      refine lv_goto (tgt := 62) hx hb d_M_compare_44 (by decide) ?_
      have hj := jz1 (zS g a * ((bS g b1 : Nat) : Int)) (zS g b1 * ((bS g a : Nat) : Int))
      rw [← hQ]
      exact pw_iret hx hb hr hlocks hw (⟨cmpZ_e (by omega), (((hk8).trans hk19).trans hk30).weak (fun c9 _ h9 => by first | omega | (dsimp only at h9 ⊢; omega)), fun y9 h1 h2 h3 => (hf30 (y9) (by omega) (by omega) (by omega)).trans ((hf19 (y9) (by omega) (by omega) (by omega)).trans (hf8 (y9) (by omega) (by omega) (by omega)))⟩) d_M_compare_62
  rw [hH, hlo] at hgo
  exact hgo
set_option maxHeartbeats 4000000 in
set_option maxRecDepth 100000 in
/-- wholeQuotient(a, b) -/
theorem c_M_wholeQuotient (l : Launch) (D : va_G) (ty : Nat → ClassId) (ad : Nat → Nat) (M : Nat) (F : Nat → va_E) (sz : Nat) (hM : 103 < M) (co ln wr : Int) (hO : F 98 = oM ad co ln wr) (g : Sg) (a b1 : Nat) (ha : a < 16) (hb1 : b1 < 16) (hRn : Rn ty F g) (hok : okS g) (hy0 : zS g b1 ≠ 0) :
    CV l y_M_wholeQuotient w_M_wholeQuotient ({ frames := 4, cells := 0, slots := 0, locals := 106 } : Room) [.ref (ad (98)), .int (iI ((a : Int))), .int (iI ((b1 : Int)))] D ty ad M F sz (fun F1 => Nm ty F1 41 (flZ (zS g b1) (zS g a * ((bS g b1 : Nat) : Int)) / (((zS g b1).natAbs * bS g a : Nat) : Int)) ∧ Nm ty F1 39 (flZ (zS g b1) (zS g a * ((bS g b1 : Nat) : Int))) ∧ Nm ty F1 40 ((((zS g b1).natAbs * bS g a : Nat) : Int)) ∧ kp ty F F1 (fun c => c = 36 ∨ c = 37 ∨ c = 38 ∨ c = 39 ∨ c = 40 ∨ c = 41 ∨ c = 42) ∧ frM F F1) := by
  refine Met.ofW (cc := b_M_wholeQuotient) (maxL := 3) (ret := none) (by decide) rfl ?_
  intro p e s m args below meth c s₁ B hml hv
  obtain ⟨rfl, hsz, hP, hK, hD0⟩ := hv
  have hx := B.exec
  have hb := B.bytes
  have hr := B.returns
  have hts := atoms_spec (ws := w_M_wholeQuotient) B.pre
  have hq : ∀ w ∈ wT, w.before _ s = true := fun w h => hts w (List.mem_cons_of_mem _ h)
  have hown : s.vm.findClass R_M = some m.cls := findClass_of_methodNamed B.named
  have hlocks := B.notSynchronized
  subst hsz
  have hw := pw_start hP hK hD0
  have hl := lv_entry ([.ref (ad (98)), .int (iI ((a : Int))), .int (iI ((b1 : Int)))]) (n := 3) (Nat.le_of_ble_eq_true rfl)
  rw [lg_entry_eq]
  generalize (lg_sl ([.ref (ad (98)), .int (iI ((a : Int))), .int (iI ((b1 : Int)))]) ++ List.replicate (3 - (lg_sl ([.ref (ad (98)), .int (iI ((a : Int))), .int (iI ((b1 : Int)))])).length) Slot.unset).toArray = ls at hl ⊢
  have hl : lv_has ls 3 [(0, .ref (ad (98))), (1, .int (iI ((a : Int)))), (2, .int (iI ((b1 : Int))))] := hl
  change W p l e ({ frames := 4, cells := 0, slots := 0, locals := 106 } : Room) s m ([.ref (ad (98)), .int (iI ((a : Int))), .int (iI ((b1 : Int)))]).toArray below meth c s.heap [] 0 0 (MQ below (va_Qv (fun F1 => Nm ty F1 41 (flZ (zS g b1) (zS g a * ((bS g b1 : Nat) : Int)) / (((zS g b1).natAbs * bS g a : Nat) : Int)) ∧ Nm ty F1 39 (flZ (zS g b1) (zS g a * ((bS g b1 : Nat) : Int))) ∧ Nm ty F1 40 ((((zS g b1).natAbs * bS g a : Nat) : Int)) ∧ kp ty F F1 (fun c => c = 36 ∨ c = 37 ∨ c = 38 ∨ c = 39 ∨ c = 40 ∨ c = 41 ∨ c = 42) ∧ frM F F1) (pAt D classes (tysL ty) ad M (pA ad M s.heap.size)) (pA ad M s.heap.size)) ([.ref (ad (98)), .int (iI ((a : Int))), .int (iI ((b1 : Int)))]).toArray s 0 0 (pA ad M s.heap.size)) (F0 m 0 ls [])
  generalize hQ : MQ below (va_Qv (fun F1 => Nm ty F1 41 (flZ (zS g b1) (zS g a * ((bS g b1 : Nat) : Int)) / (((zS g b1).natAbs * bS g a : Nat) : Int)) ∧ Nm ty F1 39 (flZ (zS g b1) (zS g a * ((bS g b1 : Nat) : Int))) ∧ Nm ty F1 40 ((((zS g b1).natAbs * bS g a : Nat) : Int)) ∧ kp ty F F1 (fun c => c = 36 ∨ c = 37 ∨ c = 38 ∨ c = 39 ∨ c = 40 ∨ c = 41 ∨ c = 42) ∧ frM F F1) (pAt D classes (tysL ty) ad M (pA ad M s.heap.size)) (pA ad M s.heap.size)) ([.ref (ad (98)), .int (iI ((a : Int))), .int (iI ((b1 : Int)))]).toArray s 0 0 (pA ad M s.heap.size) = Q
  obtain ⟨H, hH⟩ : ∃ H, H = s.heap := ⟨_, rfl⟩
  obtain ⟨locs, hlo⟩ : ∃ z : List Loc, z = [] := ⟨_, rfl⟩
  have hw : pw D classes (tysL ty) ad M F (pA ad M s.heap.size) s H locs := by rw [hH, hlo]; exact hw
  have hgo : W p l e ({ frames := 4, cells := 0, slots := 0, locals := 106 } : Room) s m ([.ref (ad (98)), .int (iI ((a : Int))), .int (iI ((b1 : Int)))]).toArray below meth c H locs 0 0 Q (F0 m 0 ls []) := by
    have Na := (hRn a ha).1
    have N16a := (hRn a ha).2
    have Nb1 := (hRn b1 hb1).1
    have N16b1 := (hRn b1 hb1).2
    have hxb := (hok.at ha).2.2.1
    have hd9 : 0 < (zS g b1).natAbs * bS g a := Nat.mul_pos (by omega) hxb
    have K72 : ∀  (F72 : Nat → va_E) (H : Heap) (locs : List Loc) (ls : Array Slot), (kp ty F F72 (fun c => c = 36 ∨ c = 37 ∨ c = 38 ∨ c = 39 ∨ c = 40 ∨ c = 41 ∨ c = 42)) → (frM F F72) → F72 (98) = .inr (6, [.int (iI (co)), .ref (ad (99)), .ref (ad (100)), .ref (ad (101)), .ref (ad (102)), .int (iI (ln)), .int (iI (wr)), .ref (ad (103))]) → Nm ty F72 (39) (flZ (zS g b1) (zS g a * ((bS g b1 : Nat) : Int))) → Nm ty F72 (40) ((((zS g b1).natAbs * bS g a : Nat) : Int)) → pw D classes (tysL ty) ad M F72 (pA ad M s.heap.size) s H locs → lv_has ls 3 [(0, .ref (ad (98))), (1, .int (iI ((a : Int)))), (2, .int (iI ((b1 : Int))))] → W p l e ({ frames := 4, cells := 0, slots := 0, locals := 106 } : Room) s m ([.ref (ad (98)), .int (iI ((a : Int))), .int (iI ((b1 : Int)))]).toArray below meth c H locs 0 0 Q (F0 m 72 ls []) := by
      intro F72 H locs ls hkp hfr hO N39 N40 hw hl
      refine lv_aload_n hx hb d_M_wholeQuotient_72 rfl (lv_at hl 0 rfl) ?_
      refine wz_bipush (n := 39) hx hb d_M_wholeQuotient_73 (by decide) ?_
      refine wz_bipush (n := 40) hx hb d_M_wholeQuotient_75 (by decide) ?_
      refine pw_callv hw (va_runV (As := [.int (iI (39)), .int (iI (40))]) (rest := []) ⟨hx, hb, hml, hown, hq⟩ (c_M_floor l D ty ad M F72 H.size hM (co) (ln) (wr) hO (39) (40) (flZ (zS g b1) (zS g a * ((bS g b1 : Nat) : Int))) ((((zS g b1).natAbs * bS g a : Nat) : Int)) (by omega) (by omega) (by omega) (by omega) (by omega) N39 N40 (by rw [flZ_abs, Int.natAbs_mul]; exact (hok.mm ha hb1).toMd) (by rw [Int.natAbs_natCast]; exact (hok.mm hb1 ha).toMd)) (cwV 2 hq (gV ml_M_95 im_M_floor se_M_floor in_M m_M_floor) rfl rfl rfl (by decide +kernel) ⟨Nat.le_of_ble_eq_true rfl, Nat.le_of_ble_eq_true rfl⟩) (pw_preV hw (by omega) hO rfl) rfl rfl hl.1 rfl (lv_room (Nat.le_of_ble_eq_true rfl)) d_M_wholeQuotient_77 ⟨Nat.le_of_ble_eq_true rfl, Nat.le_of_ble_eq_true rfl⟩) (fun F77 H locs q77 hw => ?_)
      obtain ⟨N41, hk77, hf77⟩ := q77
      have hO_at_77 : F77 (98) = .inr (6, [.int (iI (co)), .ref (ad (99)), .ref (ad (100)), .ref (ad (101)), .ref (ad (102)), .int (iI (ln)), .int (iI (wr)), .ref (ad (103))]) := (hf77 (98) (by omega) (by omega) (by omega)).trans hO
      have N39_at_77 : Nm ty F77 (39) (flZ (zS g b1) (zS g a * ((bS g b1 : Nat) : Int))) := hk77 _ _ (by omega) (by first | omega | (dsimp only; omega)) N39
      have N40_at_77 : Nm ty F77 (40) ((((zS g b1).natAbs * bS g a : Nat) : Int)) := hk77 _ _ (by omega) (by first | omega | (dsimp only; omega)) N40
      rw [← hQ]
      exact pw_vret hx hb hr hlocks hw (⟨N41, N39_at_77, N40_at_77, ((hkp).trans hk77).weak (fun c9 _ h9 => by first | omega | (dsimp only at h9 ⊢; omega)), fun y9 h1 h2 h3 => (hf77 (y9) (by omega) (by omega) (by omega)).trans (hfr y9 h1 h2 h3)⟩) d_M_wholeQuotient_80
    refine lv_aload_n hx hb d_M_wholeQuotient_0 rfl (lv_at hl 0 rfl) ?_
    refine wz_bipush (n := 39) hx hb d_M_wholeQuotient_1 (by decide) ?_
    refine lv_iload_n hx hb d_M_wholeQuotient_3 rfl (lv_at hl 1 rfl) ?_
    refine lv_iload_n hx hb d_M_wholeQuotient_4 rfl (lv_at hl 2 rfl) ?_
    refine pw_calli hw (va_runS (As := [.int (iI ((b1 : Int)))]) (rest := [.int (iI ((a : Int))), .int (iI (39)), .ref (ad (98))]) ⟨hx, hb, hml, hown, hq⟩ (c_M_below l D ty ad M F H.size (b1) (by omega)) (va_cwS 1 hq (gS ml_M_82 st_M_below in_M m_M_below) rfl rfl rfl (by decide +kernel) ⟨Nat.le_of_ble_eq_true rfl, Nat.le_of_ble_eq_true rfl⟩) (pw_preS hw) rfl rfl hl.1 rfl (lv_room (Nat.le_of_ble_eq_true rfl)) d_M_wholeQuotient_5 ⟨Nat.le_of_ble_eq_true rfl, Nat.le_of_ble_eq_true rfl⟩) (fun r5 F5 H locs q5 hw => ?_)
    obtain ⟨er5, eF5⟩ := q5
    rw [eF5] at hw
    clear eF5
    subst er5
    refine pw_callv hw (va_runV (As := [.int (iI (39)), .int (iI ((a : Int))), .int (iI (((16 + b1 : Nat) : Int)))]) (rest := []) ⟨hx, hb, hml, hown, hq⟩ (c_M_times l D ty ad M F H.size hM (co) (ln) (wr) hO (39) (a) (16 + b1) (zS g a) (((bS g b1 : Nat) : Int)) (by omega) (by omega) (by omega) (by omega) (by omega) Na N16b1 ((hok.mm ha hb1).toMd)) (cwV 3 hq (gV ml_M_92 im_M_times se_M_times in_M m_M_times) rfl rfl rfl (by decide +kernel) ⟨Nat.le_of_ble_eq_true rfl, Nat.le_of_ble_eq_true rfl⟩) (pw_preV hw (by omega) hO rfl) rfl rfl hl.1 rfl (lv_room (Nat.le_of_ble_eq_true rfl)) d_M_wholeQuotient_8 ⟨Nat.le_of_ble_eq_true rfl, Nat.le_of_ble_eq_true rfl⟩) (fun F8 H locs q8 hw => ?_)
    obtain ⟨N39, hk8, hf8⟩ := q8
    have hO_at_8 : F8 (98) = .inr (6, [.int (iI (co)), .ref (ad (99)), .ref (ad (100)), .ref (ad (101)), .ref (ad (102)), .int (iI (ln)), .int (iI (wr)), .ref (ad (103))]) := (hf8 (98) (by omega) (by omega) (by omega)).trans hO
    have Na_at_8 : Nm ty F8 (a) (zS g a) := hk8 _ _ (by omega) (by first | omega | (dsimp only; omega)) Na
    have N16a_at_8 : Nm ty F8 (16 + a) (((bS g a : Nat) : Int)) := hk8 _ _ (by omega) (by first | omega | (dsimp only; omega)) N16a
    have Nb1_at_8 : Nm ty F8 (b1) (zS g b1) := hk8 _ _ (by omega) (by first | omega | (dsimp only; omega)) Nb1
    have N16b1_at_8 : Nm ty F8 (16 + b1) (((bS g b1 : Nat) : Int)) := hk8 _ _ (by omega) (by first | omega | (dsimp only; omega)) N16b1
    have hRn_at_8 : Rn ty F8 (g) := hRn.kq hk8 (fun c9 h8 h9 => by first | omega | (dsimp only at h9; omega))
    refine lv_aload_n hx hb d_M_wholeQuotient_11 rfl (lv_at hl 0 rfl) ?_
    refine wz_bipush (n := 40) hx hb d_M_wholeQuotient_12 (by decide) ?_
    refine lv_iload_n hx hb d_M_wholeQuotient_14 rfl (lv_at hl 2 rfl) ?_
    refine lv_iload_n hx hb d_M_wholeQuotient_15 rfl (lv_at hl 1 rfl) ?_
    refine pw_calli hw (va_runS (As := [.int (iI ((a : Int)))]) (rest := [.int (iI ((b1 : Int))), .int (iI (40)), .ref (ad (98))]) ⟨hx, hb, hml, hown, hq⟩ (c_M_below l D ty ad M F8 H.size (a) (by omega)) (va_cwS 1 hq (gS ml_M_82 st_M_below in_M m_M_below) rfl rfl rfl (by decide +kernel) ⟨Nat.le_of_ble_eq_true rfl, Nat.le_of_ble_eq_true rfl⟩) (pw_preS hw) rfl rfl hl.1 rfl (lv_room (Nat.le_of_ble_eq_true rfl)) d_M_wholeQuotient_16 ⟨Nat.le_of_ble_eq_true rfl, Nat.le_of_ble_eq_true rfl⟩) (fun r16 F16 H locs q16 hw => ?_)
    obtain ⟨er16, eF16⟩ := q16
    rw [eF16] at hw
    clear eF16
    subst er16
    refine pw_callv hw (va_runV (As := [.int (iI (40)), .int (iI ((b1 : Int))), .int (iI (((16 + a : Nat) : Int)))]) (rest := []) ⟨hx, hb, hml, hown, hq⟩ (c_M_times l D ty ad M F8 H.size hM (co) (ln) (wr) hO_at_8 (40) (b1) (16 + a) (zS g b1) (((bS g a : Nat) : Int)) (by omega) (by omega) (by omega) (by omega) (by omega) Nb1_at_8 N16a_at_8 ((hok.mm hb1 ha).toMd)) (cwV 3 hq (gV ml_M_92 im_M_times se_M_times in_M m_M_times) rfl rfl rfl (by decide +kernel) ⟨Nat.le_of_ble_eq_true rfl, Nat.le_of_ble_eq_true rfl⟩) (pw_preV hw (by omega) hO_at_8 rfl) rfl rfl hl.1 rfl (lv_room (Nat.le_of_ble_eq_true rfl)) d_M_wholeQuotient_19 ⟨Nat.le_of_ble_eq_true rfl, Nat.le_of_ble_eq_true rfl⟩) (fun F19 H locs q19 hw => ?_)
    obtain ⟨N40, hk19, hf19⟩ := q19
    have hO_at_19 : F19 (98) = .inr (6, [.int (iI (co)), .ref (ad (99)), .ref (ad (100)), .ref (ad (101)), .ref (ad (102)), .int (iI (ln)), .int (iI (wr)), .ref (ad (103))]) := (hf19 (98) (by omega) (by omega) (by omega)).trans hO_at_8
    have Na_at_19 : Nm ty F19 (a) (zS g a) := hk19 _ _ (by omega) (by first | omega | (dsimp only; omega)) Na_at_8
    have N16a_at_19 : Nm ty F19 (16 + a) (((bS g a : Nat) : Int)) := hk19 _ _ (by omega) (by first | omega | (dsimp only; omega)) N16a_at_8
    have Nb1_at_19 : Nm ty F19 (b1) (zS g b1) := hk19 _ _ (by omega) (by first | omega | (dsimp only; omega)) Nb1_at_8
    have N16b1_at_19 : Nm ty F19 (16 + b1) (((bS g b1 : Nat) : Int)) := hk19 _ _ (by omega) (by first | omega | (dsimp only; omega)) N16b1_at_8
    have hRn_at_19 : Rn ty F19 (g) := hRn_at_8.kq hk19 (fun c9 h8 h9 => by first | omega | (dsimp only at h9; omega))
    have N39_at_19 : Nm ty F19 (39) ((zS g a) * ((bS g b1 : Nat) : Int)) := hk19 _ _ (by omega) (by first | omega | (dsimp only; omega)) N39
    refine lv_aload_n hx hb d_M_wholeQuotient_22 rfl (lv_at hl 0 rfl) ?_
    refine pw_get (ci := 6) (C := R_M) (T := T_M) (N := 8) hx hb hq i_M hown hw (by omega) hO_at_19 rfl 3 (by decide) (hq _ fl_M_16) (fun _ h9 => h9) rfl d_M_wholeQuotient_23 ?_
    refine wz_bipush (n := 40) hx hb d_M_wholeQuotient_26 (by decide) ?_
    obtain ⟨P28, S28, G28, ⟨a28_99, a28_100, a28_101⟩, ⟨n28, hS28, h328, hD28, ht28, hv28⟩, hG28⟩ := id N40
    have hs28 := sB_c ((zS g b1) * ((bS g a : Nat) : Int))
    refine pw_zald (k := 40) hx hb hw 4 (by omega) a28_101 rfl (iI_in (by omega) (by omega) (by omega)) ((iI_cl (by omega) (by omega)).trans (by omega)) d_M_wholeQuotient_28 ?_
    refine lv_topi (fun x28 ex28 => ?_)
    obtain rfl : x28 = iI ((sB ((zS g b1) * ((bS g a : Nat) : Int)) : Int)) := ex28.trans (hG28)
    refine wz_if_eq (tgt := 72) hx hb d_M_wholeQuotient_29 (by decide) (by omega) (by omega) (fun c29 => ?_) (fun c29 => ?_)
    · have hy9 : 0 ≤ zS g b1 := by
        refine Int.not_lt.mp (fun h9 => ?_)
        have := Int.mul_neg_of_neg_of_pos h9 (show (0 : Int) < ((bS g a : Nat) : Int) by omega)
        omega
      exact K72  _ _ _ ls (((hk8).trans hk19).weak (fun c9 _ h9 => by first | omega | (dsimp only at h9 ⊢; omega))) (fun y9 h1 h2 h3 => (hf19 (y9) (by omega) (by omega) (by omega)).trans (hf8 (y9) (by omega) (by omega) (by omega))) (hO_at_19) (by rw [flz_n hy9]; exact N39_at_19) (by rw [Int.natCast_mul, show (((zS g b1).natAbs : Nat) : Int) = zS g b1 by omega]; exact N40) hw hl
    · have hy9 : zS g b1 < 0 := by
        refine Int.not_le.mp (fun h9 => ?_)
        have := Int.mul_nonneg h9 (show (0 : Int) ≤ ((bS g a : Nat) : Int) by omega)
        omega
      refine lv_aload_n hx hb d_M_wholeQuotient_32 rfl (lv_at hl 0 rfl) ?_
      refine pw_get (ci := 6) (C := R_M) (T := T_M) (N := 8) hx hb hq i_M hown hw (by omega) hO_at_19 rfl 3 (by decide) (hq _ fl_M_16) (fun _ h9 => h9) rfl d_M_wholeQuotient_33 ?_
      refine wz_bipush (n := 40) hx hb d_M_wholeQuotient_36 (by decide) ?_
      refine wz_iconst (n := 0) hx hb d_M_wholeQuotient_38 ?_
      refine pw_zast (k := 40) hx hb hw 4 (by omega) a28_101 rfl (iI_in (by omega) (by omega) (by omega)) ((iI_cl (by omega) (by omega)).trans (by omega)) (y := iI (0)) (by decide) d_M_wholeQuotient_39 (fun F39 H locs eF39 hw => ?_)
      have m39_101 : F39 (101) = .inl (ty 4, 43, .inl (upd G28 (40) (iI (0)))) := by rw [eF39]; exact va_up_self ..
      obtain ⟨N40, hk39⟩ := Nm_sign (t := 40) (z' := (((zS g b1).natAbs * bS g a : Nat) : Int)) ⟨a28_99, a28_100, a28_101⟩ ⟨(show F39 (99) = F19 (99) from by rw [eF39]; exact va_up_ne _ _ (by omega)).trans a28_99, (show F39 (100) = F19 (100) from by rw [eF39]; exact va_up_ne _ _ (by omega)).trans a28_100, m39_101⟩ N40 (by rw [Int.natAbs_natCast, Int.natAbs_mul]; rfl) (by rw [zB_0 (by omega)]; rfl)
      have hO_at_39 : F39 (98) = .inr (6, [.int (iI (co)), .ref (ad (99)), .ref (ad (100)), .ref (ad (101)), .ref (ad (102)), .int (iI (ln)), .int (iI (wr)), .ref (ad (103))]) := (show F39 (98) = F19 (98) from by rw [eF39]; exact va_up_ne _ _ (by omega)).trans hO_at_19
      have Na_at_39 : Nm ty F39 (a) (zS g a) := hk39 _ _ (by omega) (by first | omega | (dsimp only; omega)) Na_at_19
      have N16a_at_39 : Nm ty F39 (16 + a) (((bS g a : Nat) : Int)) := hk39 _ _ (by omega) (by first | omega | (dsimp only; omega)) N16a_at_19
      have Nb1_at_39 : Nm ty F39 (b1) (zS g b1) := hk39 _ _ (by omega) (by first | omega | (dsimp only; omega)) Nb1_at_19
      have N16b1_at_39 : Nm ty F39 (16 + b1) (((bS g b1 : Nat) : Int)) := hk39 _ _ (by omega) (by first | omega | (dsimp only; omega)) N16b1_at_19
      have hRn_at_39 : Rn ty F39 (g) := hRn_at_19.kq hk39 (fun c9 h8 h9 => by first | omega | (dsimp only at h9; omega))
      have N39_at_39 : Nm ty F39 (39) ((zS g a) * ((bS g b1 : Nat) : Int)) := hk39 _ _ (by omega) (by first | omega | (dsimp only; omega)) N39_at_19
      have a28_99_at_39 : F39 (99) = .inl (ty 0, 12900, .inl (P28)) := (show F39 (99) = F19 (99) from by rw [eF39]; exact va_up_ne _ _ (by omega)).trans a28_99
      have a28_100_at_39 : F39 (100) = .inl (ty 0, 43, .inl (S28)) := (show F39 (100) = F19 (100) from by rw [eF39]; exact va_up_ne _ _ (by omega)).trans a28_100
      refine lv_aload_n hx hb d_M_wholeQuotient_40 rfl (lv_at hl 0 rfl) ?_
      refine pw_get (ci := 6) (C := R_M) (T := T_M) (N := 8) hx hb hq i_M hown hw (by omega) hO_at_39 rfl 3 (by decide) (hq _ fl_M_16) (fun _ h9 => h9) rfl d_M_wholeQuotient_41 ?_
      refine wz_bipush (n := 39) hx hb d_M_wholeQuotient_44 (by decide) ?_
      refine lv_aload_n hx hb d_M_wholeQuotient_46 rfl (lv_at hl 0 rfl) ?_
      refine pw_get (ci := 6) (C := R_M) (T := T_M) (N := 8) hx hb hq i_M hown hw (by omega) hO_at_39 rfl 3 (by decide) (hq _ fl_M_16) (fun _ h9 => h9) rfl d_M_wholeQuotient_47 ?_
      refine wz_bipush (n := 39) hx hb d_M_wholeQuotient_50 (by decide) ?_
      obtain ⟨P52, S52, G52, ⟨a52_99, a52_100, a52_101⟩, ⟨n52, hS52, h352, hD52, ht52, hv52⟩, hG52⟩ := id N39_at_39
      have hs52 := sB_c ((zS g a) * ((bS g b1 : Nat) : Int))
      refine pw_zald (k := 39) hx hb hw 4 (by omega) a52_101 rfl (iI_in (by omega) (by omega) (by omega)) ((iI_cl (by omega) (by omega)).trans (by omega)) d_M_wholeQuotient_52 ?_
      refine lv_topi (fun x52 ex52 => ?_)
      obtain rfl : x52 = iI ((sB ((zS g a) * ((bS g b1 : Nat) : Int)) : Int)) := ex52.trans (hG52)
      refine wz_if_ne (tgt := 70) hx hb d_M_wholeQuotient_53 (by decide) (by omega) (by omega) (fun c53 => ?_) (fun c53 => ?_)
      · refine wz_iconst (n := 0) hx hb d_M_wholeQuotient_70 ?_
        refine pw_zast (k := 39) hx hb hw 4 (by omega) a52_101 rfl (iI_in (by omega) (by omega) (by omega)) ((iI_cl (by omega) (by omega)).trans (by omega)) (y := iI (0)) (by decide) d_M_wholeQuotient_71 (fun F71 H locs eF71 hw => ?_)
        have m71_101 : F71 (101) = .inl (ty 4, 43, .inl (upd G52 (39) (iI (0)))) := by rw [eF71]; exact va_up_self ..
        obtain ⟨N39, hk71⟩ := Nm_sign (t := 39) (z' := -(zS g a * ((bS g b1 : Nat) : Int))) ⟨a52_99, a52_100, a52_101⟩ ⟨(show F71 (99) = F39 (99) from by rw [eF71]; exact va_up_ne _ _ (by omega)).trans a52_99, (show F71 (100) = F39 (100) from by rw [eF71]; exact va_up_ne _ _ (by omega)).trans a52_100, m71_101⟩ N39_at_39 (by omega) (by rw [zB_0 (by omega)]; rfl)
        have hO_at_71 : F71 (98) = .inr (6, [.int (iI (co)), .ref (ad (99)), .ref (ad (100)), .ref (ad (101)), .ref (ad (102)), .int (iI (ln)), .int (iI (wr)), .ref (ad (103))]) := (show F71 (98) = F39 (98) from by rw [eF71]; exact va_up_ne _ _ (by omega)).trans hO_at_39
        have Na_at_71 : Nm ty F71 (a) (zS g a) := hk71 _ _ (by omega) (by first | omega | (dsimp only; omega)) Na_at_39
        have N16a_at_71 : Nm ty F71 (16 + a) (((bS g a : Nat) : Int)) := hk71 _ _ (by omega) (by first | omega | (dsimp only; omega)) N16a_at_39
        have Nb1_at_71 : Nm ty F71 (b1) (zS g b1) := hk71 _ _ (by omega) (by first | omega | (dsimp only; omega)) Nb1_at_39
        have N16b1_at_71 : Nm ty F71 (16 + b1) (((bS g b1 : Nat) : Int)) := hk71 _ _ (by omega) (by first | omega | (dsimp only; omega)) N16b1_at_39
        have hRn_at_71 : Rn ty F71 (g) := hRn_at_39.kq hk71 (fun c9 h8 h9 => by first | omega | (dsimp only at h9; omega))
        have N40_at_71 : Nm ty F71 (40) ((((zS g b1).natAbs * bS g a : Nat) : Int)) := hk71 _ _ (by omega) (by first | omega | (dsimp only; omega)) N40
        have a52_99_at_71 : F71 (99) = .inl (ty 0, 12900, .inl (P52)) := (show F71 (99) = F39 (99) from by rw [eF71]; exact va_up_ne _ _ (by omega)).trans a52_99
        have a52_100_at_71 : F71 (100) = .inl (ty 0, 43, .inl (S52)) := (show F71 (100) = F39 (100) from by rw [eF71]; exact va_up_ne _ _ (by omega)).trans a52_100
        exact K72  _ _ _ ls (((((hk8).trans hk19).trans hk39).trans hk71).weak (fun c9 _ h9 => by first | omega | (dsimp only at h9 ⊢; omega))) (fun y9 h1 h2 h3 => (show F71 (y9) = F39 (y9) from by rw [eF71]; exact va_up_ne _ _ (by omega)).trans ((show F39 (y9) = F19 (y9) from by rw [eF39]; exact va_up_ne _ _ (by omega)).trans ((hf19 (y9) (by omega) (by omega) (by omega)).trans (hf8 (y9) (by omega) (by omega) (by omega))))) (hO_at_71) (by rw [flz_p hy9]; exact N39) (N40_at_71) hw hl
      · refine lv_aload_n hx hb d_M_wholeQuotient_56 rfl (lv_at hl 0 rfl) ?_
        refine pw_get (ci := 6) (C := R_M) (T := T_M) (N := 8) hx hb hq i_M hown hw (by omega) hO_at_39 rfl 2 (by decide) (hq _ fl_M_13) (fun _ h9 => h9) rfl d_M_wholeQuotient_57 ?_
        refine wz_bipush (n := 39) hx hb d_M_wholeQuotient_60 (by decide) ?_
        obtain ⟨P62, S62, G62, ⟨a62_99, a62_100, a62_101⟩, ⟨nl, hS62, h362, hD62, ht62, hv62⟩, hG62⟩ := id N39_at_39
        have hz62 := bvP_z ht62
        rw [hv62] at hz62
        refine pw_iald (k := 39) hx hb hw 0 (by omega) a62_100 rfl (iI_in (by omega) (by omega) (by omega)) ((iI_cl (by omega) (by omega)).trans (by omega)) d_M_wholeQuotient_62 ?_
        refine lv_topi (fun x62 ex62 => ?_)
        obtain rfl : x62 = iI ((nl : Int)) := ex62.trans (hS62)
        refine wz_if_le (tgt := 70) hx hb d_M_wholeQuotient_63 (by decide) (by omega) (by omega) (fun c63 => ?_) (fun c63 => ?_)
        · refine wz_iconst (n := 0) hx hb d_M_wholeQuotient_70 ?_
          refine pw_zast (k := 39) hx hb hw 4 (by omega) a62_101 rfl (iI_in (by omega) (by omega) (by omega)) ((iI_cl (by omega) (by omega)).trans (by omega)) (y := iI (0)) (by decide) d_M_wholeQuotient_71 (fun F71 H locs eF71 hw => ?_)
          have m71_101 : F71 (101) = .inl (ty 4, 43, .inl (upd G62 (39) (iI (0)))) := by rw [eF71]; exact va_up_self ..
          obtain ⟨N39, hk71⟩ := Nm_sign (t := 39) (z' := -(zS g a * ((bS g b1 : Nat) : Int))) ⟨a62_99, a62_100, a62_101⟩ ⟨(show F71 (99) = F39 (99) from by rw [eF71]; exact va_up_ne _ _ (by omega)).trans a62_99, (show F71 (100) = F39 (100) from by rw [eF71]; exact va_up_ne _ _ (by omega)).trans a62_100, m71_101⟩ N39_at_39 (by omega) (by rw [zB_0 (by omega)]; rfl)
          have hO_at_71 : F71 (98) = .inr (6, [.int (iI (co)), .ref (ad (99)), .ref (ad (100)), .ref (ad (101)), .ref (ad (102)), .int (iI (ln)), .int (iI (wr)), .ref (ad (103))]) := (show F71 (98) = F39 (98) from by rw [eF71]; exact va_up_ne _ _ (by omega)).trans hO_at_39
          have Na_at_71 : Nm ty F71 (a) (zS g a) := hk71 _ _ (by omega) (by first | omega | (dsimp only; omega)) Na_at_39
          have N16a_at_71 : Nm ty F71 (16 + a) (((bS g a : Nat) : Int)) := hk71 _ _ (by omega) (by first | omega | (dsimp only; omega)) N16a_at_39
          have Nb1_at_71 : Nm ty F71 (b1) (zS g b1) := hk71 _ _ (by omega) (by first | omega | (dsimp only; omega)) Nb1_at_39
          have N16b1_at_71 : Nm ty F71 (16 + b1) (((bS g b1 : Nat) : Int)) := hk71 _ _ (by omega) (by first | omega | (dsimp only; omega)) N16b1_at_39
          have hRn_at_71 : Rn ty F71 (g) := hRn_at_39.kq hk71 (fun c9 h8 h9 => by first | omega | (dsimp only at h9; omega))
          have N40_at_71 : Nm ty F71 (40) ((((zS g b1).natAbs * bS g a : Nat) : Int)) := hk71 _ _ (by omega) (by first | omega | (dsimp only; omega)) N40
          have a62_99_at_71 : F71 (99) = .inl (ty 0, 12900, .inl (P62)) := (show F71 (99) = F39 (99) from by rw [eF71]; exact va_up_ne _ _ (by omega)).trans a62_99
          have a62_100_at_71 : F71 (100) = .inl (ty 0, 43, .inl (S62)) := (show F71 (100) = F39 (100) from by rw [eF71]; exact va_up_ne _ _ (by omega)).trans a62_100
          exact K72  _ _ _ ls (((((hk8).trans hk19).trans hk39).trans hk71).weak (fun c9 _ h9 => by first | omega | (dsimp only at h9 ⊢; omega))) (fun y9 h1 h2 h3 => (show F71 (y9) = F39 (y9) from by rw [eF71]; exact va_up_ne _ _ (by omega)).trans ((show F39 (y9) = F19 (y9) from by rw [eF39]; exact va_up_ne _ _ (by omega)).trans ((hf19 (y9) (by omega) (by omega) (by omega)).trans (hf8 (y9) (by omega) (by omega) (by omega))))) (hO_at_71) (by rw [flz_p hy9]; exact N39) (N40_at_71) hw hl
        · refine wz_iconst (n := 1) hx hb d_M_wholeQuotient_66 ?_
          refine lv_goto (tgt := 71) hx hb d_M_wholeQuotient_67 (by decide) ?_
          refine pw_zast (k := 39) hx hb hw 4 (by omega) a62_101 rfl (iI_in (by omega) (by omega) (by omega)) ((iI_cl (by omega) (by omega)).trans (by omega)) (y := iI (1)) (by decide) d_M_wholeQuotient_71 (fun F71 H locs eF71 hw => ?_)
          have m71_101 : F71 (101) = .inl (ty 4, 43, .inl (upd G62 (39) (iI (1)))) := by rw [eF71]; exact va_up_self ..
          obtain ⟨N39, hk71⟩ := Nm_sign (t := 39) (z' := -(zS g a * ((bS g b1 : Nat) : Int))) ⟨a62_99, a62_100, a62_101⟩ ⟨(show F71 (99) = F39 (99) from by rw [eF71]; exact va_up_ne _ _ (by omega)).trans a62_99, (show F71 (100) = F39 (100) from by rw [eF71]; exact va_up_ne _ _ (by omega)).trans a62_100, m71_101⟩ N39_at_39 (by omega) (by rw [zB_1 (by omega)]; rfl)
          have hO_at_71 : F71 (98) = .inr (6, [.int (iI (co)), .ref (ad (99)), .ref (ad (100)), .ref (ad (101)), .ref (ad (102)), .int (iI (ln)), .int (iI (wr)), .ref (ad (103))]) := (show F71 (98) = F39 (98) from by rw [eF71]; exact va_up_ne _ _ (by omega)).trans hO_at_39
          have Na_at_71 : Nm ty F71 (a) (zS g a) := hk71 _ _ (by omega) (by first | omega | (dsimp only; omega)) Na_at_39
          have N16a_at_71 : Nm ty F71 (16 + a) (((bS g a : Nat) : Int)) := hk71 _ _ (by omega) (by first | omega | (dsimp only; omega)) N16a_at_39
          have Nb1_at_71 : Nm ty F71 (b1) (zS g b1) := hk71 _ _ (by omega) (by first | omega | (dsimp only; omega)) Nb1_at_39
          have N16b1_at_71 : Nm ty F71 (16 + b1) (((bS g b1 : Nat) : Int)) := hk71 _ _ (by omega) (by first | omega | (dsimp only; omega)) N16b1_at_39
          have hRn_at_71 : Rn ty F71 (g) := hRn_at_39.kq hk71 (fun c9 h8 h9 => by first | omega | (dsimp only at h9; omega))
          have N40_at_71 : Nm ty F71 (40) ((((zS g b1).natAbs * bS g a : Nat) : Int)) := hk71 _ _ (by omega) (by first | omega | (dsimp only; omega)) N40
          have a62_99_at_71 : F71 (99) = .inl (ty 0, 12900, .inl (P62)) := (show F71 (99) = F39 (99) from by rw [eF71]; exact va_up_ne _ _ (by omega)).trans a62_99
          have a62_100_at_71 : F71 (100) = .inl (ty 0, 43, .inl (S62)) := (show F71 (100) = F39 (100) from by rw [eF71]; exact va_up_ne _ _ (by omega)).trans a62_100
          exact K72  _ _ _ ls (((((hk8).trans hk19).trans hk39).trans hk71).weak (fun c9 _ h9 => by first | omega | (dsimp only at h9 ⊢; omega))) (fun y9 h1 h2 h3 => (show F71 (y9) = F39 (y9) from by rw [eF71]; exact va_up_ne _ _ (by omega)).trans ((show F39 (y9) = F19 (y9) from by rw [eF39]; exact va_up_ne _ _ (by omega)).trans ((hf19 (y9) (by omega) (by omega) (by omega)).trans (hf8 (y9) (by omega) (by omega) (by omega))))) (hO_at_71) (by rw [flz_p hy9]; exact N39) (N40_at_71) hw hl
  rw [hH, hlo] at hgo
  exact hgo
set_option maxHeartbeats 4000000 in
set_option maxRecDepth 100000 in
/-- take(to, a) -/
theorem c_M_take (l : Launch) (D : va_G) (ty : Nat → ClassId) (ad : Nat → Nat) (M : Nat) (F : Nat → va_E) (sz : Nat) (hM : 103 < M) (co ln wr : Int) (hO : F 98 = oM ad co ln wr) (g : Sg) (to a : Nat) (hto : to < 16) (ha : a < 16) (hRn : Rn ty F g) (hok : okS g) :
    CI l y_M_take w_M_take ({ frames := 5, cells := 0, slots := 0, locals := 127 } : Room) [.ref (ad (98)), .int (iI ((to : Int))), .int (iI ((a : Int)))] D ty ad M F sz (fun r F1 => r = iI (s_lay g to (zS g a) (bS g a)).1 ∧ Rn ty F1 (s_lay g to (zS g a) (bS g a)).2 ∧ frM F F1) := by
  refine Met.ofW (cc := b_M_take) (maxL := 3) (ret := (some .int)) (by decide) rfl ?_
  intro p e s m args below meth c s₁ B hml hv
  obtain ⟨rfl, hsz, hP, hK, hD0⟩ := hv
  have hx := B.exec
  have hb := B.bytes
  have hr := B.returns
  have hts := atoms_spec (ws := w_M_take) B.pre
  have hq : ∀ w ∈ wT, w.before _ s = true := fun w h => hts w (List.mem_cons_of_mem _ h)
  have hown : s.vm.findClass R_M = some m.cls := findClass_of_methodNamed B.named
  have hlocks := B.notSynchronized
  subst hsz
  have hw := pw_start hP hK hD0
  have hl := lv_entry ([.ref (ad (98)), .int (iI ((to : Int))), .int (iI ((a : Int)))]) (n := 3) (Nat.le_of_ble_eq_true rfl)
  rw [lg_entry_eq]
  generalize (lg_sl ([.ref (ad (98)), .int (iI ((to : Int))), .int (iI ((a : Int)))]) ++ List.replicate (3 - (lg_sl ([.ref (ad (98)), .int (iI ((to : Int))), .int (iI ((a : Int)))])).length) Slot.unset).toArray = ls at hl ⊢
  have hl : lv_has ls 3 [(0, .ref (ad (98))), (1, .int (iI ((to : Int)))), (2, .int (iI ((a : Int))))] := hl
  change W p l e ({ frames := 5, cells := 0, slots := 0, locals := 127 } : Room) s m ([.ref (ad (98)), .int (iI ((to : Int))), .int (iI ((a : Int)))]).toArray below meth c s.heap [] 0 0 (MQ below (va_Qi (fun r F1 => r = iI (s_lay g to (zS g a) (bS g a)).1 ∧ Rn ty F1 (s_lay g to (zS g a) (bS g a)).2 ∧ frM F F1) (pAt D classes (tysL ty) ad M (pA ad M s.heap.size)) (pA ad M s.heap.size)) ([.ref (ad (98)), .int (iI ((to : Int))), .int (iI ((a : Int)))]).toArray s 0 0 (pA ad M s.heap.size)) (F0 m 0 ls [])
  generalize hQ : MQ below (va_Qi (fun r F1 => r = iI (s_lay g to (zS g a) (bS g a)).1 ∧ Rn ty F1 (s_lay g to (zS g a) (bS g a)).2 ∧ frM F F1) (pAt D classes (tysL ty) ad M (pA ad M s.heap.size)) (pA ad M s.heap.size)) ([.ref (ad (98)), .int (iI ((to : Int))), .int (iI ((a : Int)))]).toArray s 0 0 (pA ad M s.heap.size) = Q
  obtain ⟨H, hH⟩ : ∃ H, H = s.heap := ⟨_, rfl⟩
  obtain ⟨locs, hlo⟩ : ∃ z : List Loc, z = [] := ⟨_, rfl⟩
  have hw : pw D classes (tysL ty) ad M F (pA ad M s.heap.size) s H locs := by rw [hH, hlo]; exact hw
  have hgo : W p l e ({ frames := 5, cells := 0, slots := 0, locals := 127 } : Room) s m ([.ref (ad (98)), .int (iI ((to : Int))), .int (iI ((a : Int)))]).toArray below meth c H locs 0 0 Q (F0 m 0 ls []) := by
    have Na := (hRn a ha).1
    have N16a := (hRn a ha).2
    refine lv_aload_n hx hb d_M_take_0 rfl (lv_at hl 0 rfl) ?_
    refine wz_bipush (n := 32) hx hb d_M_take_1 (by decide) ?_
    refine lv_iload_n hx hb d_M_take_3 rfl (lv_at hl 2 rfl) ?_
    refine pw_callv hw (va_runV (As := [.int (iI (32)), .int (iI ((a : Int)))]) (rest := []) ⟨hx, hb, hml, hown, hq⟩ (c_M_copy l D ty ad M F H.size hM (co) (ln) (wr) hO (32) (a) (by omega) (by omega) (by omega) (zS g a) Na) (cwV 2 hq (gV ml_M_55 im_M_copy se_M_copy in_M m_M_copy) rfl rfl rfl (by decide +kernel) ⟨Nat.le_of_ble_eq_true rfl, Nat.le_of_ble_eq_true rfl⟩) (pw_preV hw (by omega) hO rfl) rfl rfl hl.1 rfl (lv_room (Nat.le_of_ble_eq_true rfl)) d_M_take_4 ⟨Nat.le_of_ble_eq_true rfl, Nat.le_of_ble_eq_true rfl⟩) (fun F4 H locs q4 hw => ?_)
    obtain ⟨N32, hk4, hf4⟩ := q4
    have hO_at_4 : F4 (98) = .inr (6, [.int (iI (co)), .ref (ad (99)), .ref (ad (100)), .ref (ad (101)), .ref (ad (102)), .int (iI (ln)), .int (iI (wr)), .ref (ad (103))]) := (hf4 (98) (by omega) (by omega) (by omega)).trans hO
    have Na_at_4 : Nm ty F4 (a) (zS g a) := hk4 _ _ (by omega) (by first | omega | (dsimp only; omega)) Na
    have N16a_at_4 : Nm ty F4 (16 + a) (((bS g a : Nat) : Int)) := hk4 _ _ (by omega) (by first | omega | (dsimp only; omega)) N16a
    have hRn_at_4 : Rn ty F4 (g) := hRn.kq hk4 (fun c9 h8 h9 => by first | omega | (dsimp only at h9; omega))
    refine lv_aload_n hx hb d_M_take_7 rfl (lv_at hl 0 rfl) ?_
    refine wz_bipush (n := 33) hx hb d_M_take_8 (by decide) ?_
    refine lv_iload_n hx hb d_M_take_10 rfl (lv_at hl 2 rfl) ?_
    refine pw_calli hw (va_runS (As := [.int (iI ((a : Int)))]) (rest := [.int (iI (33)), .ref (ad (98))]) ⟨hx, hb, hml, hown, hq⟩ (c_M_below l D ty ad M F4 H.size (a) (by omega)) (va_cwS 1 hq (gS ml_M_82 st_M_below in_M m_M_below) rfl rfl rfl (by decide +kernel) ⟨Nat.le_of_ble_eq_true rfl, Nat.le_of_ble_eq_true rfl⟩) (pw_preS hw) rfl rfl hl.1 rfl (lv_room (Nat.le_of_ble_eq_true rfl)) d_M_take_11 ⟨Nat.le_of_ble_eq_true rfl, Nat.le_of_ble_eq_true rfl⟩) (fun r11 F11 H locs q11 hw => ?_)
    obtain ⟨er11, eF11⟩ := q11
    rw [eF11] at hw
    clear eF11
    subst er11
    refine pw_callv hw (va_runV (As := [.int (iI (33)), .int (iI (((16 + a : Nat) : Int)))]) (rest := []) ⟨hx, hb, hml, hown, hq⟩ (c_M_copy l D ty ad M F4 H.size hM (co) (ln) (wr) hO_at_4 (33) (16 + a) (by omega) (by omega) (by omega) (((bS g a : Nat) : Int)) N16a_at_4) (cwV 2 hq (gV ml_M_55 im_M_copy se_M_copy in_M m_M_copy) rfl rfl rfl (by decide +kernel) ⟨Nat.le_of_ble_eq_true rfl, Nat.le_of_ble_eq_true rfl⟩) (pw_preV hw (by omega) hO_at_4 rfl) rfl rfl hl.1 rfl (lv_room (Nat.le_of_ble_eq_true rfl)) d_M_take_14 ⟨Nat.le_of_ble_eq_true rfl, Nat.le_of_ble_eq_true rfl⟩) (fun F14 H locs q14 hw => ?_)
    obtain ⟨N33, hk14, hf14⟩ := q14
    have hO_at_14 : F14 (98) = .inr (6, [.int (iI (co)), .ref (ad (99)), .ref (ad (100)), .ref (ad (101)), .ref (ad (102)), .int (iI (ln)), .int (iI (wr)), .ref (ad (103))]) := (hf14 (98) (by omega) (by omega) (by omega)).trans hO_at_4
    have Na_at_14 : Nm ty F14 (a) (zS g a) := hk14 _ _ (by omega) (by first | omega | (dsimp only; omega)) Na_at_4
    have N16a_at_14 : Nm ty F14 (16 + a) (((bS g a : Nat) : Int)) := hk14 _ _ (by omega) (by first | omega | (dsimp only; omega)) N16a_at_4
    have hRn_at_14 : Rn ty F14 (g) := hRn_at_4.kq hk14 (fun c9 h8 h9 => by first | omega | (dsimp only at h9; omega))
    have N32_at_14 : Nm ty F14 (32) (zS g a) := hk14 _ _ (by omega) (by first | omega | (dsimp only; omega)) N32
    refine lv_aload_n hx hb d_M_take_17 rfl (lv_at hl 0 rfl) ?_
    refine lv_iload_n hx hb d_M_take_18 rfl (lv_at hl 1 rfl) ?_
    refine pw_calli hw (va_runV (As := [.int (iI ((to : Int)))]) (rest := []) ⟨hx, hb, hml, hown, hq⟩ (c_M_lay l D ty ad M F14 H.size hM (co) (ln) (wr) hO_at_14 (to) (zS g a) (((bS g a : Nat) : Int)) (g) (by omega) (zz_ne hok ha) N32_at_14 N33 hRn_at_14 ((hok.at ha).1.toMd) ((hok.at ha).2.1.toMd)) (cwV 1 hq (gV ml_M_89 im_M_lay se_M_lay in_M m_M_lay) rfl rfl rfl (by decide +kernel) ⟨Nat.le_of_ble_eq_true rfl, Nat.le_of_ble_eq_true rfl⟩) (pw_preV hw (by omega) hO_at_14 rfl) rfl rfl hl.1 rfl (lv_room (Nat.le_of_ble_eq_true rfl)) d_M_take_19 ⟨Nat.le_of_ble_eq_true rfl, Nat.le_of_ble_eq_true rfl⟩) (fun r19 F19 H locs q19 hw => ?_)
    obtain ⟨er19, hRn, hf19⟩ := q19
    have hO_at_19 : F19 (98) = .inr (6, [.int (iI (co)), .ref (ad (99)), .ref (ad (100)), .ref (ad (101)), .ref (ad (102)), .int (iI (ln)), .int (iI (wr)), .ref (ad (103))]) := (hf19 (98) (by omega) (by omega) (by omega)).trans hO_at_14
    rw [← hQ]
    exact pw_iret hx hb hr hlocks hw (by
      rw [flz_n (by omega)] at er19 hRn
      exact ⟨er19, hRn, fun y9 h1 h2 h3 => (hf19 (y9) (by omega) (by omega) (by omega)).trans ((hf14 (y9) (by omega) (by omega) (by omega)).trans (hf4 (y9) (by omega) (by omega) (by omega)))⟩) d_M_take_22
  rw [hH, hlo] at hgo
  exact hgo
set_option maxHeartbeats 4000000 in
set_option maxRecDepth 100000 in
/-- rest(to, a, b) -/
theorem c_M_rest (l : Launch) (D : va_G) (ty : Nat → ClassId) (ad : Nat → Nat) (M : Nat) (F : Nat → va_E) (sz : Nat) (hM : 103 < M) (co ln wr : Int) (hO : F 98 = oM ad co ln wr) (g : Sg) (a b1 : Nat) (ha : a < 16) (hb1 : b1 < 16) (hRn : Rn ty F g) (hok : okS g) (to : Nat) (hto : to < 16) (hy0 : zS g b1 ≠ 0) :
    CI l y_M_rest w_M_rest ({ frames := 5, cells := 0, slots := 0, locals := 128 } : Room) [.ref (ad (98)), .int (iI ((to : Int))), .int (iI ((a : Int))), .int (iI ((b1 : Int)))] D ty ad M F sz (fun r F1 => r = iI (s_lay g to (zS g a * ((bS g b1 : Nat) : Int) - flZ (zS g b1) (zS g a * ((bS g b1 : Nat) : Int)) / (((zS g b1).natAbs * bS g a : Nat) : Int) * (zS g b1 * ((bS g a : Nat) : Int))) (bS g a * bS g b1)).1 ∧ Rn ty F1 (s_lay g to (zS g a * ((bS g b1 : Nat) : Int) - flZ (zS g b1) (zS g a * ((bS g b1 : Nat) : Int)) / (((zS g b1).natAbs * bS g a : Nat) : Int) * (zS g b1 * ((bS g a : Nat) : Int))) (bS g a * bS g b1)).2 ∧ frM F F1) := by
  refine Met.ofW (cc := b_M_rest) (maxL := 4) (ret := (some .int)) (by decide) rfl ?_
  intro p e s m args below meth c s₁ B hml hv
  obtain ⟨rfl, hsz, hP, hK, hD0⟩ := hv
  have hx := B.exec
  have hb := B.bytes
  have hr := B.returns
  have hts := atoms_spec (ws := w_M_rest) B.pre
  have hq : ∀ w ∈ wT, w.before _ s = true := fun w h => hts w (List.mem_cons_of_mem _ h)
  have hown : s.vm.findClass R_M = some m.cls := findClass_of_methodNamed B.named
  have hlocks := B.notSynchronized
  subst hsz
  have hw := pw_start hP hK hD0
  have hl := lv_entry ([.ref (ad (98)), .int (iI ((to : Int))), .int (iI ((a : Int))), .int (iI ((b1 : Int)))]) (n := 4) (Nat.le_of_ble_eq_true rfl)
  rw [lg_entry_eq]
  generalize (lg_sl ([.ref (ad (98)), .int (iI ((to : Int))), .int (iI ((a : Int))), .int (iI ((b1 : Int)))]) ++ List.replicate (4 - (lg_sl ([.ref (ad (98)), .int (iI ((to : Int))), .int (iI ((a : Int))), .int (iI ((b1 : Int)))])).length) Slot.unset).toArray = ls at hl ⊢
  have hl : lv_has ls 4 [(0, .ref (ad (98))), (1, .int (iI ((to : Int)))), (2, .int (iI ((a : Int)))), (3, .int (iI ((b1 : Int))))] := hl
  change W p l e ({ frames := 5, cells := 0, slots := 0, locals := 128 } : Room) s m ([.ref (ad (98)), .int (iI ((to : Int))), .int (iI ((a : Int))), .int (iI ((b1 : Int)))]).toArray below meth c s.heap [] 0 0 (MQ below (va_Qi (fun r F1 => r = iI (s_lay g to (zS g a * ((bS g b1 : Nat) : Int) - flZ (zS g b1) (zS g a * ((bS g b1 : Nat) : Int)) / (((zS g b1).natAbs * bS g a : Nat) : Int) * (zS g b1 * ((bS g a : Nat) : Int))) (bS g a * bS g b1)).1 ∧ Rn ty F1 (s_lay g to (zS g a * ((bS g b1 : Nat) : Int) - flZ (zS g b1) (zS g a * ((bS g b1 : Nat) : Int)) / (((zS g b1).natAbs * bS g a : Nat) : Int) * (zS g b1 * ((bS g a : Nat) : Int))) (bS g a * bS g b1)).2 ∧ frM F F1) (pAt D classes (tysL ty) ad M (pA ad M s.heap.size)) (pA ad M s.heap.size)) ([.ref (ad (98)), .int (iI ((to : Int))), .int (iI ((a : Int))), .int (iI ((b1 : Int)))]).toArray s 0 0 (pA ad M s.heap.size)) (F0 m 0 ls [])
  generalize hQ : MQ below (va_Qi (fun r F1 => r = iI (s_lay g to (zS g a * ((bS g b1 : Nat) : Int) - flZ (zS g b1) (zS g a * ((bS g b1 : Nat) : Int)) / (((zS g b1).natAbs * bS g a : Nat) : Int) * (zS g b1 * ((bS g a : Nat) : Int))) (bS g a * bS g b1)).1 ∧ Rn ty F1 (s_lay g to (zS g a * ((bS g b1 : Nat) : Int) - flZ (zS g b1) (zS g a * ((bS g b1 : Nat) : Int)) / (((zS g b1).natAbs * bS g a : Nat) : Int) * (zS g b1 * ((bS g a : Nat) : Int))) (bS g a * bS g b1)).2 ∧ frM F F1) (pAt D classes (tysL ty) ad M (pA ad M s.heap.size)) (pA ad M s.heap.size)) ([.ref (ad (98)), .int (iI ((to : Int))), .int (iI ((a : Int))), .int (iI ((b1 : Int)))]).toArray s 0 0 (pA ad M s.heap.size) = Q
  obtain ⟨H, hH⟩ : ∃ H, H = s.heap := ⟨_, rfl⟩
  obtain ⟨locs, hlo⟩ : ∃ z : List Loc, z = [] := ⟨_, rfl⟩
  have hw : pw D classes (tysL ty) ad M F (pA ad M s.heap.size) s H locs := by rw [hH, hlo]; exact hw
  have hgo : W p l e ({ frames := 5, cells := 0, slots := 0, locals := 128 } : Room) s m ([.ref (ad (98)), .int (iI ((to : Int))), .int (iI ((a : Int))), .int (iI ((b1 : Int)))]).toArray below meth c H locs 0 0 Q (F0 m 0 ls []) := by
    have Na := (hRn a ha).1
    have N16a := (hRn a ha).2
    have Nb1 := (hRn b1 hb1).1
    have N16b1 := (hRn b1 hb1).2
    have hxb := (hok.at ha).2.2.1
    have hyb := (hok.at hb1).2.2.1
    have hd9 : 0 < (zS g b1).natAbs * bS g a := Nat.mul_pos (by omega) hxb
    have hprL : pr (flZ (zS g b1) (zS g a * ((bS g b1 : Nat) : Int))).natAbs := by rw [flZ_abs, Int.natAbs_mul]; exact hok.mm ha hb1
    have hprD : pr ((zS g b1).natAbs * bS g a) := hok.mm hb1 ha
    have hbb9 : 0 < bS g a * bS g b1 := Nat.mul_pos hxb hyb
    have K68 : ∀  (F68 : Nat → va_E) (H : Heap) (locs : List Loc) (ls : Array Slot), (frM F F68) → F68 (98) = .inr (6, [.int (iI (co)), .ref (ad (99)), .ref (ad (100)), .ref (ad (101)), .ref (ad (102)), .int (iI (ln)), .int (iI (wr)), .ref (ad (103))]) → Nm ty F68 (32) (zS g a * ((bS g b1 : Nat) : Int) - flZ (zS g b1) (zS g a * ((bS g b1 : Nat) : Int)) / (((zS g b1).natAbs * bS g a : Nat) : Int) * (zS g b1 * ((bS g a : Nat) : Int))) → Nm ty F68 (16 + a) (((bS g a : Nat) : Int)) → Nm ty F68 (16 + b1) (((bS g b1 : Nat) : Int)) → Rn ty F68 (g) → pw D classes (tysL ty) ad M F68 (pA ad M s.heap.size) s H locs → lv_has ls 4 [(0, .ref (ad (98))), (1, .int (iI ((to : Int)))), (2, .int (iI ((a : Int)))), (3, .int (iI ((b1 : Int))))] → W p l e ({ frames := 5, cells := 0, slots := 0, locals := 128 } : Room) s m ([.ref (ad (98)), .int (iI ((to : Int))), .int (iI ((a : Int))), .int (iI ((b1 : Int)))]).toArray below meth c H locs 0 0 Q (F0 m 68 ls []) := by
      intro F68 H locs ls hfr hO N32 N16a N16b1 hRn hw hl
      refine lv_aload_n hx hb d_M_rest_68 rfl (lv_at hl 0 rfl) ?_
      refine wz_bipush (n := 33) hx hb d_M_rest_69 (by decide) ?_
      refine lv_iload_n hx hb d_M_rest_71 rfl (lv_at hl 2 rfl) ?_
      refine pw_calli hw (va_runS (As := [.int (iI ((a : Int)))]) (rest := [.int (iI (33)), .ref (ad (98))]) ⟨hx, hb, hml, hown, hq⟩ (c_M_below l D ty ad M F68 H.size (a) (by omega)) (va_cwS 1 hq (gS ml_M_82 st_M_below in_M m_M_below) rfl rfl rfl (by decide +kernel) ⟨Nat.le_of_ble_eq_true rfl, Nat.le_of_ble_eq_true rfl⟩) (pw_preS hw) rfl rfl hl.1 rfl (lv_room (Nat.le_of_ble_eq_true rfl)) d_M_rest_72 ⟨Nat.le_of_ble_eq_true rfl, Nat.le_of_ble_eq_true rfl⟩) (fun r72 F72 H locs q72 hw => ?_)
      obtain ⟨er72, eF72⟩ := q72
      rw [eF72] at hw
      clear eF72
      subst er72
      refine lv_iload_n hx hb d_M_rest_75 rfl (lv_at hl 3 rfl) ?_
      refine pw_calli hw (va_runS (As := [.int (iI ((b1 : Int)))]) (rest := [.int (iI (((16 + a : Nat) : Int))), .int (iI (33)), .ref (ad (98))]) ⟨hx, hb, hml, hown, hq⟩ (c_M_below l D ty ad M F68 H.size (b1) (by omega)) (va_cwS 1 hq (gS ml_M_82 st_M_below in_M m_M_below) rfl rfl rfl (by decide +kernel) ⟨Nat.le_of_ble_eq_true rfl, Nat.le_of_ble_eq_true rfl⟩) (pw_preS hw) rfl rfl hl.1 rfl (lv_room (Nat.le_of_ble_eq_true rfl)) d_M_rest_76 ⟨Nat.le_of_ble_eq_true rfl, Nat.le_of_ble_eq_true rfl⟩) (fun r76 F76 H locs q76 hw => ?_)
      obtain ⟨er76, eF76⟩ := q76
      rw [eF76] at hw
      clear eF76
      subst er76
      refine pw_callv hw (va_runV (As := [.int (iI (33)), .int (iI (((16 + a : Nat) : Int))), .int (iI (((16 + b1 : Nat) : Int)))]) (rest := []) ⟨hx, hb, hml, hown, hq⟩ (c_M_times l D ty ad M F68 H.size hM (co) (ln) (wr) hO (33) (16 + a) (16 + b1) (((bS g a : Nat) : Int)) (((bS g b1 : Nat) : Int)) (by omega) (by omega) (by omega) (by omega) (by omega) N16a N16b1 ((hok.bb ha hb1).toMd)) (cwV 3 hq (gV ml_M_92 im_M_times se_M_times in_M m_M_times) rfl rfl rfl (by decide +kernel) ⟨Nat.le_of_ble_eq_true rfl, Nat.le_of_ble_eq_true rfl⟩) (pw_preV hw (by omega) hO rfl) rfl rfl hl.1 rfl (lv_room (Nat.le_of_ble_eq_true rfl)) d_M_rest_79 ⟨Nat.le_of_ble_eq_true rfl, Nat.le_of_ble_eq_true rfl⟩) (fun F79 H locs q79 hw => ?_)
      obtain ⟨N33, hk79, hf79⟩ := q79
      have hO_at_79 : F79 (98) = .inr (6, [.int (iI (co)), .ref (ad (99)), .ref (ad (100)), .ref (ad (101)), .ref (ad (102)), .int (iI (ln)), .int (iI (wr)), .ref (ad (103))]) := (hf79 (98) (by omega) (by omega) (by omega)).trans hO
      have N32_at_79 : Nm ty F79 (32) (zS g a * ((bS g b1 : Nat) : Int) - flZ (zS g b1) (zS g a * ((bS g b1 : Nat) : Int)) / (((zS g b1).natAbs * bS g a : Nat) : Int) * (zS g b1 * ((bS g a : Nat) : Int))) := hk79 _ _ (by omega) (by first | omega | (dsimp only; omega)) N32
      have N16a_at_79 : Nm ty F79 (16 + a) (((bS g a : Nat) : Int)) := hk79 _ _ (by omega) (by first | omega | (dsimp only; omega)) N16a
      have N16b1_at_79 : Nm ty F79 (16 + b1) (((bS g b1 : Nat) : Int)) := hk79 _ _ (by omega) (by first | omega | (dsimp only; omega)) N16b1
      have hRn_at_79 : Rn ty F79 (g) := hRn.kq hk79 (fun c9 h8 h9 => by first | omega | (dsimp only at h9; omega))
      refine lv_aload_n hx hb d_M_rest_82 rfl (lv_at hl 0 rfl) ?_
      refine lv_iload_n hx hb d_M_rest_83 rfl (lv_at hl 1 rfl) ?_
      refine pw_calli hw (va_runV (As := [.int (iI ((to : Int)))]) (rest := []) ⟨hx, hb, hml, hown, hq⟩ (c_M_lay l D ty ad M F79 H.size hM (co) (ln) (wr) hO_at_79 (to) (zS g a * ((bS g b1 : Nat) : Int) - flZ (zS g b1) (zS g a * ((bS g b1 : Nat) : Int)) / (((zS g b1).natAbs * bS g a : Nat) : Int) * (zS g b1 * ((bS g a : Nat) : Int))) (((bS g a : Nat) : Int) * ((bS g b1 : Nat) : Int)) (g) (by omega) (by rw [← Int.natCast_mul]; omega) N32_at_79 N33 hRn_at_79 (rest_md hprL hprD hd9) (by rw [Int.natAbs_mul]; exact (hok.bb ha hb1).toMd)) (cwV 1 hq (gV ml_M_89 im_M_lay se_M_lay in_M m_M_lay) rfl rfl rfl (by decide +kernel) ⟨Nat.le_of_ble_eq_true rfl, Nat.le_of_ble_eq_true rfl⟩) (pw_preV hw (by omega) hO_at_79 rfl) rfl rfl hl.1 rfl (lv_room (Nat.le_of_ble_eq_true rfl)) d_M_rest_84 ⟨Nat.le_of_ble_eq_true rfl, Nat.le_of_ble_eq_true rfl⟩) (fun r84 F84 H locs q84 hw => ?_)
      obtain ⟨er84, hRn, hf84⟩ := q84
      have hO_at_84 : F84 (98) = .inr (6, [.int (iI (co)), .ref (ad (99)), .ref (ad (100)), .ref (ad (101)), .ref (ad (102)), .int (iI (ln)), .int (iI (wr)), .ref (ad (103))]) := (hf84 (98) (by omega) (by omega) (by omega)).trans hO_at_79
      rw [← hQ]
      exact pw_iret hx hb hr hlocks hw (by
        rw [flz_n (by rw [← Int.natCast_mul]; omega), Int.natAbs_mul, Int.natAbs_natCast, Int.natAbs_natCast] at er84 hRn
        exact ⟨er84, hRn, fun y9 h1 h2 h3 => ((hf84 (y9) (by omega) (by omega) (by omega)).trans (hf79 (y9) (by omega) (by omega) (by omega))).trans (hfr y9 h1 h2 h3)⟩) d_M_rest_87
    refine lv_aload_n hx hb d_M_rest_0 rfl (lv_at hl 0 rfl) ?_
    refine lv_iload_n hx hb d_M_rest_1 rfl (lv_at hl 2 rfl) ?_
    refine lv_iload_n hx hb d_M_rest_2 rfl (lv_at hl 3 rfl) ?_
    refine pw_callv hw (va_runV (As := [.int (iI ((a : Int))), .int (iI ((b1 : Int)))]) (rest := []) ⟨hx, hb, hml, hown, hq⟩ (c_M_wholeQuotient l D ty ad M F H.size hM (co) (ln) (wr) hO g a b1 ha hb1 hRn hok hy0) (cwV 2 hq (gV ml_M_107 im_M_wholeQuotient se_M_wholeQuotient in_M m_M_wholeQuotient) rfl rfl rfl (by decide +kernel) ⟨Nat.le_of_ble_eq_true rfl, Nat.le_of_ble_eq_true rfl⟩) (pw_preV hw (by omega) hO rfl) rfl rfl hl.1 rfl (lv_room (Nat.le_of_ble_eq_true rfl)) d_M_rest_3 ⟨Nat.le_of_ble_eq_true rfl, Nat.le_of_ble_eq_true rfl⟩) (fun F3 H locs q3 hw => ?_)
    obtain ⟨N41, N39, N40, hk3, hf3⟩ := q3
    have hO_at_3 : F3 (98) = .inr (6, [.int (iI (co)), .ref (ad (99)), .ref (ad (100)), .ref (ad (101)), .ref (ad (102)), .int (iI (ln)), .int (iI (wr)), .ref (ad (103))]) := (hf3 (98) (by omega) (by omega) (by omega)).trans hO
    have Na_at_3 : Nm ty F3 (a) (zS g a) := hk3 _ _ (by omega) (by first | omega | (dsimp only; omega)) Na
    have N16a_at_3 : Nm ty F3 (16 + a) (((bS g a : Nat) : Int)) := hk3 _ _ (by omega) (by first | omega | (dsimp only; omega)) N16a
    have Nb1_at_3 : Nm ty F3 (b1) (zS g b1) := hk3 _ _ (by omega) (by first | omega | (dsimp only; omega)) Nb1
    have N16b1_at_3 : Nm ty F3 (16 + b1) (((bS g b1 : Nat) : Int)) := hk3 _ _ (by omega) (by first | omega | (dsimp only; omega)) N16b1
    have hRn_at_3 : Rn ty F3 (g) := hRn.kq hk3 (fun c9 h8 h9 => by first | omega | (dsimp only at h9; omega))
    refine lv_aload_n hx hb d_M_rest_6 rfl (lv_at hl 0 rfl) ?_
    refine wz_bipush (n := 32) hx hb d_M_rest_7 (by decide) ?_
    refine wz_bipush (n := 41) hx hb d_M_rest_9 (by decide) ?_
    refine wz_bipush (n := 40) hx hb d_M_rest_11 (by decide) ?_
    refine pw_callv hw (va_runV (As := [.int (iI (32)), .int (iI (41)), .int (iI (40))]) (rest := []) ⟨hx, hb, hml, hown, hq⟩ (c_M_times l D ty ad M F3 H.size hM (co) (ln) (wr) hO_at_3 (32) (41) (40) (flZ (zS g b1) (zS g a * ((bS g b1 : Nat) : Int)) / (((zS g b1).natAbs * bS g a : Nat) : Int)) ((((zS g b1).natAbs * bS g a : Nat) : Int)) (by omega) (by omega) (by omega) (by omega) (by omega) N41 N40 (fl_md hprL hprD hd9)) (cwV 3 hq (gV ml_M_92 im_M_times se_M_times in_M m_M_times) rfl rfl rfl (by decide +kernel) ⟨Nat.le_of_ble_eq_true rfl, Nat.le_of_ble_eq_true rfl⟩) (pw_preV hw (by omega) hO_at_3 rfl) rfl rfl hl.1 rfl (lv_room (Nat.le_of_ble_eq_true rfl)) d_M_rest_13 ⟨Nat.le_of_ble_eq_true rfl, Nat.le_of_ble_eq_true rfl⟩) (fun F13 H locs q13 hw => ?_)
    obtain ⟨N32, hk13, hf13⟩ := q13
    have hO_at_13 : F13 (98) = .inr (6, [.int (iI (co)), .ref (ad (99)), .ref (ad (100)), .ref (ad (101)), .ref (ad (102)), .int (iI (ln)), .int (iI (wr)), .ref (ad (103))]) := (hf13 (98) (by omega) (by omega) (by omega)).trans hO_at_3
    have Na_at_13 : Nm ty F13 (a) (zS g a) := hk13 _ _ (by omega) (by first | omega | (dsimp only; omega)) Na_at_3
    have N16a_at_13 : Nm ty F13 (16 + a) (((bS g a : Nat) : Int)) := hk13 _ _ (by omega) (by first | omega | (dsimp only; omega)) N16a_at_3
    have Nb1_at_13 : Nm ty F13 (b1) (zS g b1) := hk13 _ _ (by omega) (by first | omega | (dsimp only; omega)) Nb1_at_3
    have N16b1_at_13 : Nm ty F13 (16 + b1) (((bS g b1 : Nat) : Int)) := hk13 _ _ (by omega) (by first | omega | (dsimp only; omega)) N16b1_at_3
    have hRn_at_13 : Rn ty F13 (g) := hRn_at_3.kq hk13 (fun c9 h8 h9 => by first | omega | (dsimp only at h9; omega))
    have N41_at_13 : Nm ty F13 (41) (flZ (zS g b1) (zS g a * ((bS g b1 : Nat) : Int)) / (((zS g b1).natAbs * bS g a : Nat) : Int)) := hk13 _ _ (by omega) (by first | omega | (dsimp only; omega)) N41
    have N39_at_13 : Nm ty F13 (39) (flZ (zS g b1) (zS g a * ((bS g b1 : Nat) : Int))) := hk13 _ _ (by omega) (by first | omega | (dsimp only; omega)) N39
    have N40_at_13 : Nm ty F13 (40) ((((zS g b1).natAbs * bS g a : Nat) : Int)) := hk13 _ _ (by omega) (by first | omega | (dsimp only; omega)) N40
    refine lv_aload_n hx hb d_M_rest_16 rfl (lv_at hl 0 rfl) ?_
    refine wz_bipush (n := 32) hx hb d_M_rest_17 (by decide) ?_
    refine wz_bipush (n := 39) hx hb d_M_rest_19 (by decide) ?_
    refine wz_bipush (n := 32) hx hb d_M_rest_21 (by decide) ?_
    refine wz_iconst (n := 1) hx hb d_M_rest_23 ?_
    refine pw_callv hw (va_runV (As := [.int (iI (32)), .int (iI (39)), .int (iI (32)), .int (iI (1))]) (rest := []) ⟨hx, hb, hml, hown, hq⟩ (c_M_join l D ty ad M F13 H.size hM (co) (ln) (wr) hO_at_13 (32) (39) (32) 1 (flZ (zS g b1) (zS g a * ((bS g b1 : Nat) : Int))) ((flZ (zS g b1) (zS g a * ((bS g b1 : Nat) : Int)) / (((zS g b1).natAbs * bS g a : Nat) : Int)) * (((zS g b1).natAbs * bS g a : Nat) : Int)) (by omega) (by omega) (by omega) (by omega) N39_at_13 N32 (hprL.toMd) (by rw [Int.natAbs_mul]; exact fl_md hprL hprD hd9)) (cwV 4 hq (gV ml_M_75 im_M_join se_M_join in_M m_M_join) rfl rfl rfl (by decide +kernel) ⟨Nat.le_of_ble_eq_true rfl, Nat.le_of_ble_eq_true rfl⟩) (pw_preV hw (by omega) hO_at_13 rfl) rfl rfl hl.1 rfl (lv_room (Nat.le_of_ble_eq_true rfl)) d_M_rest_24 ⟨Nat.le_of_ble_eq_true rfl, Nat.le_of_ble_eq_true rfl⟩) (fun F24 H locs q24 hw => ?_)
    obtain ⟨N32, hk24, hf24⟩ := q24
    have hO_at_24 : F24 (98) = .inr (6, [.int (iI (co)), .ref (ad (99)), .ref (ad (100)), .ref (ad (101)), .ref (ad (102)), .int (iI (ln)), .int (iI (wr)), .ref (ad (103))]) := (hf24 (98) (by omega) (by omega) (by omega)).trans hO_at_13
    have Na_at_24 : Nm ty F24 (a) (zS g a) := hk24 _ _ (by omega) (by first | omega | (dsimp only; omega)) Na_at_13
    have N16a_at_24 : Nm ty F24 (16 + a) (((bS g a : Nat) : Int)) := hk24 _ _ (by omega) (by first | omega | (dsimp only; omega)) N16a_at_13
    have Nb1_at_24 : Nm ty F24 (b1) (zS g b1) := hk24 _ _ (by omega) (by first | omega | (dsimp only; omega)) Nb1_at_13
    have N16b1_at_24 : Nm ty F24 (16 + b1) (((bS g b1 : Nat) : Int)) := hk24 _ _ (by omega) (by first | omega | (dsimp only; omega)) N16b1_at_13
    have hRn_at_24 : Rn ty F24 (g) := hRn_at_13.kq hk24 (fun c9 h8 h9 => by first | omega | (dsimp only at h9; omega))
    have N41_at_24 : Nm ty F24 (41) (flZ (zS g b1) (zS g a * ((bS g b1 : Nat) : Int)) / (((zS g b1).natAbs * bS g a : Nat) : Int)) := hk24 _ _ (by omega) (by first | omega | (dsimp only; omega)) N41_at_13
    have N39_at_24 : Nm ty F24 (39) (flZ (zS g b1) (zS g a * ((bS g b1 : Nat) : Int))) := hk24 _ _ (by omega) (by first | omega | (dsimp only; omega)) N39_at_13
    have N40_at_24 : Nm ty F24 (40) ((((zS g b1).natAbs * bS g a : Nat) : Int)) := hk24 _ _ (by omega) (by first | omega | (dsimp only; omega)) N40_at_13
    refine lv_aload_n hx hb d_M_rest_27 rfl (lv_at hl 0 rfl) ?_
    refine pw_get (ci := 6) (C := R_M) (T := T_M) (N := 8) hx hb hq i_M hown hw (by omega) hO_at_24 rfl 3 (by decide) (hq _ fl_M_16) (fun _ h9 => h9) rfl d_M_rest_28 ?_
    refine lv_iload_n hx hb d_M_rest_31 rfl (lv_at hl 3 rfl) ?_
    obtain ⟨P32, S32, G32, ⟨a32_99, a32_100, a32_101⟩, ⟨n32, hS32, h332, hD32, ht32, hv32⟩, hG32⟩ := id Nb1_at_24
    have hs32 := sB_c (zS g b1)
    refine pw_zald (k := b1) hx hb hw 4 (by omega) a32_101 rfl (iI_in (by omega) (by omega) (by omega)) ((iI_cl (by omega) (by omega)).trans (by omega)) d_M_rest_32 ?_
    refine lv_topi (fun x32 ex32 => ?_)
    obtain rfl : x32 = iI ((sB (zS g b1) : Int)) := ex32.trans (hG32)
    refine wz_if_eq (tgt := 68) hx hb d_M_rest_33 (by decide) (by omega) (by omega) (fun c33 => ?_) (fun c33 => ?_)
    · have hy9 : 0 ≤ zS g b1 := by omega
      exact K68  _ _ _ ls (fun y9 h1 h2 h3 => (hf24 (y9) (by omega) (by omega) (by omega)).trans ((hf13 (y9) (by omega) (by omega) (by omega)).trans (hf3 (y9) (by omega) (by omega) (by omega)))) (hO_at_24) (by rw [← rest_p hy9]; exact N32) (N16a_at_24) (N16b1_at_24) (hRn_at_24) hw hl
    · have hy9 : zS g b1 < 0 := by omega
      refine lv_aload_n hx hb d_M_rest_36 rfl (lv_at hl 0 rfl) ?_
      refine pw_get (ci := 6) (C := R_M) (T := T_M) (N := 8) hx hb hq i_M hown hw (by omega) hO_at_24 rfl 3 (by decide) (hq _ fl_M_16) (fun _ h9 => h9) rfl d_M_rest_37 ?_
      refine wz_bipush (n := 32) hx hb d_M_rest_40 (by decide) ?_
      refine lv_aload_n hx hb d_M_rest_42 rfl (lv_at hl 0 rfl) ?_
      refine pw_get (ci := 6) (C := R_M) (T := T_M) (N := 8) hx hb hq i_M hown hw (by omega) hO_at_24 rfl 3 (by decide) (hq _ fl_M_16) (fun _ h9 => h9) rfl d_M_rest_43 ?_
      refine wz_bipush (n := 32) hx hb d_M_rest_46 (by decide) ?_
      obtain ⟨P48, S48, G48, ⟨a48_99, a48_100, a48_101⟩, ⟨n48, hS48, h348, hD48, ht48, hv48⟩, hG48⟩ := id N32
      have hs48 := sB_c (jz 1 (flZ (zS g b1) (zS g a * ((bS g b1 : Nat) : Int))) ((flZ (zS g b1) (zS g a * ((bS g b1 : Nat) : Int)) / (((zS g b1).natAbs * bS g a : Nat) : Int)) * (((zS g b1).natAbs * bS g a : Nat) : Int)))
      refine pw_zald (k := 32) hx hb hw 4 (by omega) a48_101 rfl (iI_in (by omega) (by omega) (by omega)) ((iI_cl (by omega) (by omega)).trans (by omega)) d_M_rest_48 ?_
      refine lv_topi (fun x48 ex48 => ?_)
      obtain rfl : x48 = iI ((sB (jz 1 (flZ (zS g b1) (zS g a * ((bS g b1 : Nat) : Int))) ((flZ (zS g b1) (zS g a * ((bS g b1 : Nat) : Int)) / (((zS g b1).natAbs * bS g a : Nat) : Int)) * (((zS g b1).natAbs * bS g a : Nat) : Int))) : Int)) := ex48.trans (hG48)
      refine wz_if_ne (tgt := 66) hx hb d_M_rest_49 (by decide) (by omega) (by omega) (fun c49 => ?_) (fun c49 => ?_)
      · refine wz_iconst (n := 0) hx hb d_M_rest_66 ?_
        refine pw_zast (k := 32) hx hb hw 4 (by omega) a48_101 rfl (iI_in (by omega) (by omega) (by omega)) ((iI_cl (by omega) (by omega)).trans (by omega)) (y := iI (0)) (by decide) d_M_rest_67 (fun F67 H locs eF67 hw => ?_)
        have m67_101 : F67 (101) = .inl (ty 4, 43, .inl (upd G48 (32) (iI (0)))) := by rw [eF67]; exact va_up_self ..
        obtain ⟨N32, hk67⟩ := Nm_sign (t := 32) (z' := -(jz 1 (flZ (zS g b1) (zS g a * ((bS g b1 : Nat) : Int))) ((flZ (zS g b1) (zS g a * ((bS g b1 : Nat) : Int)) / (((zS g b1).natAbs * bS g a : Nat) : Int)) * (((zS g b1).natAbs * bS g a : Nat) : Int)))) ⟨a48_99, a48_100, a48_101⟩ ⟨(show F67 (99) = F24 (99) from by rw [eF67]; exact va_up_ne _ _ (by omega)).trans a48_99, (show F67 (100) = F24 (100) from by rw [eF67]; exact va_up_ne _ _ (by omega)).trans a48_100, m67_101⟩ N32 (by omega) (by rw [zB_0 (by omega)]; rfl)
        have hO_at_67 : F67 (98) = .inr (6, [.int (iI (co)), .ref (ad (99)), .ref (ad (100)), .ref (ad (101)), .ref (ad (102)), .int (iI (ln)), .int (iI (wr)), .ref (ad (103))]) := (show F67 (98) = F24 (98) from by rw [eF67]; exact va_up_ne _ _ (by omega)).trans hO_at_24
        have Na_at_67 : Nm ty F67 (a) (zS g a) := hk67 _ _ (by omega) (by first | omega | (dsimp only; omega)) Na_at_24
        have N16a_at_67 : Nm ty F67 (16 + a) (((bS g a : Nat) : Int)) := hk67 _ _ (by omega) (by first | omega | (dsimp only; omega)) N16a_at_24
        have Nb1_at_67 : Nm ty F67 (b1) (zS g b1) := hk67 _ _ (by omega) (by first | omega | (dsimp only; omega)) Nb1_at_24
        have N16b1_at_67 : Nm ty F67 (16 + b1) (((bS g b1 : Nat) : Int)) := hk67 _ _ (by omega) (by first | omega | (dsimp only; omega)) N16b1_at_24
        have hRn_at_67 : Rn ty F67 (g) := hRn_at_24.kq hk67 (fun c9 h8 h9 => by first | omega | (dsimp only at h9; omega))
        have N41_at_67 : Nm ty F67 (41) (flZ (zS g b1) (zS g a * ((bS g b1 : Nat) : Int)) / (((zS g b1).natAbs * bS g a : Nat) : Int)) := hk67 _ _ (by omega) (by first | omega | (dsimp only; omega)) N41_at_24
        have N39_at_67 : Nm ty F67 (39) (flZ (zS g b1) (zS g a * ((bS g b1 : Nat) : Int))) := hk67 _ _ (by omega) (by first | omega | (dsimp only; omega)) N39_at_24
        have N40_at_67 : Nm ty F67 (40) ((((zS g b1).natAbs * bS g a : Nat) : Int)) := hk67 _ _ (by omega) (by first | omega | (dsimp only; omega)) N40_at_24
        have a48_99_at_67 : F67 (99) = .inl (ty 0, 12900, .inl (P48)) := (show F67 (99) = F24 (99) from by rw [eF67]; exact va_up_ne _ _ (by omega)).trans a48_99
        have a48_100_at_67 : F67 (100) = .inl (ty 0, 43, .inl (S48)) := (show F67 (100) = F24 (100) from by rw [eF67]; exact va_up_ne _ _ (by omega)).trans a48_100
        exact K68  _ _ _ ls (fun y9 h1 h2 h3 => (show F67 (y9) = F24 (y9) from by rw [eF67]; exact va_up_ne _ _ (by omega)).trans ((hf24 (y9) (by omega) (by omega) (by omega)).trans ((hf13 (y9) (by omega) (by omega) (by omega)).trans (hf3 (y9) (by omega) (by omega) (by omega))))) (hO_at_67) (by rw [← rest_n hy9]; exact N32) (N16a_at_67) (N16b1_at_67) (hRn_at_67) hw hl
      · refine lv_aload_n hx hb d_M_rest_52 rfl (lv_at hl 0 rfl) ?_
        refine pw_get (ci := 6) (C := R_M) (T := T_M) (N := 8) hx hb hq i_M hown hw (by omega) hO_at_24 rfl 2 (by decide) (hq _ fl_M_13) (fun _ h9 => h9) rfl d_M_rest_53 ?_
        refine wz_bipush (n := 32) hx hb d_M_rest_56 (by decide) ?_
        obtain ⟨P58, S58, G58, ⟨a58_99, a58_100, a58_101⟩, ⟨nt, hS58, h358, hD58, ht58, hv58⟩, hG58⟩ := id N32
        have hz58 := bvP_z ht58
        rw [hv58] at hz58
        refine pw_iald (k := 32) hx hb hw 0 (by omega) a58_100 rfl (iI_in (by omega) (by omega) (by omega)) ((iI_cl (by omega) (by omega)).trans (by omega)) d_M_rest_58 ?_
        refine lv_topi (fun x58 ex58 => ?_)
        obtain rfl : x58 = iI ((nt : Int)) := ex58.trans (hS58)
        refine wz_if_le (tgt := 66) hx hb d_M_rest_59 (by decide) (by omega) (by omega) (fun c59 => ?_) (fun c59 => ?_)
        · refine wz_iconst (n := 0) hx hb d_M_rest_66 ?_
          refine pw_zast (k := 32) hx hb hw 4 (by omega) a58_101 rfl (iI_in (by omega) (by omega) (by omega)) ((iI_cl (by omega) (by omega)).trans (by omega)) (y := iI (0)) (by decide) d_M_rest_67 (fun F67 H locs eF67 hw => ?_)
          have m67_101 : F67 (101) = .inl (ty 4, 43, .inl (upd G58 (32) (iI (0)))) := by rw [eF67]; exact va_up_self ..
          obtain ⟨N32, hk67⟩ := Nm_sign (t := 32) (z' := -(jz 1 (flZ (zS g b1) (zS g a * ((bS g b1 : Nat) : Int))) ((flZ (zS g b1) (zS g a * ((bS g b1 : Nat) : Int)) / (((zS g b1).natAbs * bS g a : Nat) : Int)) * (((zS g b1).natAbs * bS g a : Nat) : Int)))) ⟨a58_99, a58_100, a58_101⟩ ⟨(show F67 (99) = F24 (99) from by rw [eF67]; exact va_up_ne _ _ (by omega)).trans a58_99, (show F67 (100) = F24 (100) from by rw [eF67]; exact va_up_ne _ _ (by omega)).trans a58_100, m67_101⟩ N32 (by omega) (by rw [zB_0 (by omega)]; rfl)
          have hO_at_67 : F67 (98) = .inr (6, [.int (iI (co)), .ref (ad (99)), .ref (ad (100)), .ref (ad (101)), .ref (ad (102)), .int (iI (ln)), .int (iI (wr)), .ref (ad (103))]) := (show F67 (98) = F24 (98) from by rw [eF67]; exact va_up_ne _ _ (by omega)).trans hO_at_24
          have Na_at_67 : Nm ty F67 (a) (zS g a) := hk67 _ _ (by omega) (by first | omega | (dsimp only; omega)) Na_at_24
          have N16a_at_67 : Nm ty F67 (16 + a) (((bS g a : Nat) : Int)) := hk67 _ _ (by omega) (by first | omega | (dsimp only; omega)) N16a_at_24
          have Nb1_at_67 : Nm ty F67 (b1) (zS g b1) := hk67 _ _ (by omega) (by first | omega | (dsimp only; omega)) Nb1_at_24
          have N16b1_at_67 : Nm ty F67 (16 + b1) (((bS g b1 : Nat) : Int)) := hk67 _ _ (by omega) (by first | omega | (dsimp only; omega)) N16b1_at_24
          have hRn_at_67 : Rn ty F67 (g) := hRn_at_24.kq hk67 (fun c9 h8 h9 => by first | omega | (dsimp only at h9; omega))
          have N41_at_67 : Nm ty F67 (41) (flZ (zS g b1) (zS g a * ((bS g b1 : Nat) : Int)) / (((zS g b1).natAbs * bS g a : Nat) : Int)) := hk67 _ _ (by omega) (by first | omega | (dsimp only; omega)) N41_at_24
          have N39_at_67 : Nm ty F67 (39) (flZ (zS g b1) (zS g a * ((bS g b1 : Nat) : Int))) := hk67 _ _ (by omega) (by first | omega | (dsimp only; omega)) N39_at_24
          have N40_at_67 : Nm ty F67 (40) ((((zS g b1).natAbs * bS g a : Nat) : Int)) := hk67 _ _ (by omega) (by first | omega | (dsimp only; omega)) N40_at_24
          have a58_99_at_67 : F67 (99) = .inl (ty 0, 12900, .inl (P58)) := (show F67 (99) = F24 (99) from by rw [eF67]; exact va_up_ne _ _ (by omega)).trans a58_99
          have a58_100_at_67 : F67 (100) = .inl (ty 0, 43, .inl (S58)) := (show F67 (100) = F24 (100) from by rw [eF67]; exact va_up_ne _ _ (by omega)).trans a58_100
          exact K68  _ _ _ ls (fun y9 h1 h2 h3 => (show F67 (y9) = F24 (y9) from by rw [eF67]; exact va_up_ne _ _ (by omega)).trans ((hf24 (y9) (by omega) (by omega) (by omega)).trans ((hf13 (y9) (by omega) (by omega) (by omega)).trans (hf3 (y9) (by omega) (by omega) (by omega))))) (hO_at_67) (by rw [← rest_n hy9]; exact N32) (N16a_at_67) (N16b1_at_67) (hRn_at_67) hw hl
        · refine wz_iconst (n := 1) hx hb d_M_rest_62 ?_
          refine lv_goto (tgt := 67) hx hb d_M_rest_63 (by decide) ?_
          refine pw_zast (k := 32) hx hb hw 4 (by omega) a58_101 rfl (iI_in (by omega) (by omega) (by omega)) ((iI_cl (by omega) (by omega)).trans (by omega)) (y := iI (1)) (by decide) d_M_rest_67 (fun F67 H locs eF67 hw => ?_)
          have m67_101 : F67 (101) = .inl (ty 4, 43, .inl (upd G58 (32) (iI (1)))) := by rw [eF67]; exact va_up_self ..
          obtain ⟨N32, hk67⟩ := Nm_sign (t := 32) (z' := -(jz 1 (flZ (zS g b1) (zS g a * ((bS g b1 : Nat) : Int))) ((flZ (zS g b1) (zS g a * ((bS g b1 : Nat) : Int)) / (((zS g b1).natAbs * bS g a : Nat) : Int)) * (((zS g b1).natAbs * bS g a : Nat) : Int)))) ⟨a58_99, a58_100, a58_101⟩ ⟨(show F67 (99) = F24 (99) from by rw [eF67]; exact va_up_ne _ _ (by omega)).trans a58_99, (show F67 (100) = F24 (100) from by rw [eF67]; exact va_up_ne _ _ (by omega)).trans a58_100, m67_101⟩ N32 (by omega) (by rw [zB_1 (by omega)]; rfl)
          have hO_at_67 : F67 (98) = .inr (6, [.int (iI (co)), .ref (ad (99)), .ref (ad (100)), .ref (ad (101)), .ref (ad (102)), .int (iI (ln)), .int (iI (wr)), .ref (ad (103))]) := (show F67 (98) = F24 (98) from by rw [eF67]; exact va_up_ne _ _ (by omega)).trans hO_at_24
          have Na_at_67 : Nm ty F67 (a) (zS g a) := hk67 _ _ (by omega) (by first | omega | (dsimp only; omega)) Na_at_24
          have N16a_at_67 : Nm ty F67 (16 + a) (((bS g a : Nat) : Int)) := hk67 _ _ (by omega) (by first | omega | (dsimp only; omega)) N16a_at_24
          have Nb1_at_67 : Nm ty F67 (b1) (zS g b1) := hk67 _ _ (by omega) (by first | omega | (dsimp only; omega)) Nb1_at_24
          have N16b1_at_67 : Nm ty F67 (16 + b1) (((bS g b1 : Nat) : Int)) := hk67 _ _ (by omega) (by first | omega | (dsimp only; omega)) N16b1_at_24
          have hRn_at_67 : Rn ty F67 (g) := hRn_at_24.kq hk67 (fun c9 h8 h9 => by first | omega | (dsimp only at h9; omega))
          have N41_at_67 : Nm ty F67 (41) (flZ (zS g b1) (zS g a * ((bS g b1 : Nat) : Int)) / (((zS g b1).natAbs * bS g a : Nat) : Int)) := hk67 _ _ (by omega) (by first | omega | (dsimp only; omega)) N41_at_24
          have N39_at_67 : Nm ty F67 (39) (flZ (zS g b1) (zS g a * ((bS g b1 : Nat) : Int))) := hk67 _ _ (by omega) (by first | omega | (dsimp only; omega)) N39_at_24
          have N40_at_67 : Nm ty F67 (40) ((((zS g b1).natAbs * bS g a : Nat) : Int)) := hk67 _ _ (by omega) (by first | omega | (dsimp only; omega)) N40_at_24
          have a58_99_at_67 : F67 (99) = .inl (ty 0, 12900, .inl (P58)) := (show F67 (99) = F24 (99) from by rw [eF67]; exact va_up_ne _ _ (by omega)).trans a58_99
          have a58_100_at_67 : F67 (100) = .inl (ty 0, 43, .inl (S58)) := (show F67 (100) = F24 (100) from by rw [eF67]; exact va_up_ne _ _ (by omega)).trans a58_100
          exact K68  _ _ _ ls (fun y9 h1 h2 h3 => (show F67 (y9) = F24 (y9) from by rw [eF67]; exact va_up_ne _ _ (by omega)).trans ((hf24 (y9) (by omega) (by omega) (by omega)).trans ((hf13 (y9) (by omega) (by omega) (by omega)).trans (hf3 (y9) (by omega) (by omega) (by omega))))) (hO_at_67) (by rw [← rest_n hy9]; exact N32) (N16a_at_67) (N16b1_at_67) (hRn_at_67) hw hl
  rw [hH, hlo] at hgo
  exact hgo
