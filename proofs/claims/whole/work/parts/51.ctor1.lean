set_option maxHeartbeats 8000000 in
set_option maxRecDepth 100000 in
theorem c_X0 (l : Launch) (D : va_G) (cI cZ cO : ClassId) (h0  : Nat) : MkI l D cI cZ cO yX0_init cX0_init 1 1 30 4 156 [.ref h0] [(h0, .inr (0, [.null, .null, .null, .null, .int 0, .int 0, .int 0, .int 0]))] (fun w => ∃ q1 q2 q3 q4 : Nat, w = [(h0, .inr (0, [.ref q1, .ref q2, .ref q3, .ref q4, .int 0, .int 0, .int 20, .int 5])), (q1, .inl (cI, 12, .inl fun _ => 0)), (q2, .inl (cI, 12, .inl fun _ => 0)), (q3, .inl (cI, 12, .inl fun _ => 0)), (q4, .inl (cI, 120, .inl fun _ => 0))]) := by
  intro sz
  refine Met.ofW (cc := cX0_init) (maxL := 1) (ret := none) (by decide +kernel) rfl ?_
  intro p e s m args below meth c s₁ B hml hv
  obtain ⟨rfl, hsz, hP, hKU, hD0⟩ := hv
  have hx := B.exec
  have hb := B.bytes
  have hr := B.returns
  have hts0 := atoms_spec (ws := Cond.code yX0_init cX0_init 1 none :: TB) B.pre
  have hts : ∀ w ∈ TB, w.before _ s = true := fun w h => hts0 w (List.mem_cons_of_mem _ h)
  have hown : s.vm.findClass RX0 = some m.cls := findClass_of_methodNamed B.named
  have hlocks := B.notSynchronized
  have hin : meth.name = "<init>" := (name_of_methodNamed B.named B.method).1
  subst hsz
  have hD := hD0.self (sz := s.heap.size)
  generalize hAe : va_A [(h0, .inr (0, [.null, .null, .null, .null, .int 0, .int 0, .int 0, .int 0]))] s.heap.size = A at hD ⊢
  have hA : ∀ q : Nat, s.heap.size ≤ q → A q := fun q h => by rw [← hAe]; exact Or.inr h
  have hS : va_S A s.heap s.heap [] := va_S.rf
  have hK := hKU.1
  have hl := lv_entry ([.ref h0]) (n := 1) (Nat.le_of_ble_eq_true rfl)
  rw [lg_entry_eq]
  generalize (lg_sl ([.ref h0]) ++ List.replicate (1 - (lg_sl ([.ref h0])).length) Slot.unset).toArray = ls at hl ⊢
  have hl : lv_has ls 1 [(0, .ref h0)] := hl
  refine lv_aload_n (k := 0) hx hb (by decide +kernel) rfl (lv_at hl 0 rfl) ?_
  refine W.objInit hx hb hown (hts _ tw_1_24) (hts _ tw_1_17) (hts _ tw_obj) rfl (by rw [hml]; exact hl.1) rfl (show decode cX0_init 1 = .ok (.invokespecial 3, 3) by decide +kernel) (Nat.le_of_ble_eq_true rfl) (Nat.le_of_ble_eq_true rfl) ?_
  refine W.eq (g2 := F0 m 4 ls []) rfl ?_
  refine lv_aload_n (k := 0) hx hb (by decide +kernel) rfl (lv_at hl 0 rfl) ?_
  refine lv_bipush (n := (12)) (v := (12)) hx hb (by decide +kernel) (by decide) ?_
  refine w_newI (n := 12) (N' := 12) hx hb (hts _ tw_1_62) hK hP hD hS hA (by decide) (by decide) (by decide) (Nat.le_of_ble_eq_true rfl) (Nat.le_of_ble_eq_true rfl) (by decide +kernel) (fun q1 H hP hD hS => ?_)
  have hP : va_P D vwCl [(h0, .inr (0, [.null, .null, .null, .null, .int 0, .int 0, .int 0, .int 0])), (q1, .inl (cI, 12, .inl fun _ => 0))] H := hP
  have hD : va_D A [(h0, .inr (0, [.null, .null, .null, .null, .int 0, .int 0, .int 0, .int 0])), (q1, .inl (cI, 12, .inl fun _ => 0))] := hD
  refine W.widen (k := 1) (n := 12) (Nat.le_of_ble_eq_true rfl) (Nat.le_of_ble_eq_true rfl) ?_
  refine va_putF (ref := (TX0 0).1) (ty := (tyX0 0)) (C := RX0) (T := TX0) (N := 8) hx hb hts inT0 tyX0 tyX0_ok nmX0 hown hK hP hD hS 0 rfl rfl 0 (by decide) (hts _ tw_1_25) (fun _ h => h) rfl hin rfl (tyX0_ok 0 (by decide)) rfl rfl (Nat.le_of_ble_eq_true rfl) (by decide +kernel) (fun H locs hP hD hS => ?_)
  have hP : va_P D vwCl [(h0, .inr (0, [.ref q1, .null, .null, .null, .int 0, .int 0, .int 0, .int 0])), (q1, .inl (cI, 12, .inl fun _ => 0))] H := hP
  have hD : va_D A [(h0, .inr (0, [.ref q1, .null, .null, .null, .int 0, .int 0, .int 0, .int 0])), (q1, .inl (cI, 12, .inl fun _ => 0))] := hD
  refine lv_aload_n (k := 0) hx hb (by decide +kernel) rfl (lv_at hl 0 rfl) ?_
  refine lv_bipush (n := (12)) (v := (12)) hx hb (by decide +kernel) (by decide) ?_
  refine w_newI (n := 12) (N' := 12) hx hb (hts _ tw_1_62) hK hP hD hS hA (by decide) (by decide) (by decide) (Nat.le_of_ble_eq_true rfl) (Nat.le_of_ble_eq_true rfl) (by decide +kernel) (fun q2 H hP hD hS => ?_)
  have hP : va_P D vwCl [(h0, .inr (0, [.ref q1, .null, .null, .null, .int 0, .int 0, .int 0, .int 0])), (q1, .inl (cI, 12, .inl fun _ => 0)), (q2, .inl (cI, 12, .inl fun _ => 0))] H := hP
  have hD : va_D A [(h0, .inr (0, [.ref q1, .null, .null, .null, .int 0, .int 0, .int 0, .int 0])), (q1, .inl (cI, 12, .inl fun _ => 0)), (q2, .inl (cI, 12, .inl fun _ => 0))] := hD
  refine W.widen (k := 2) (n := 24) (Nat.le_of_ble_eq_true rfl) (Nat.le_of_ble_eq_true rfl) ?_
  refine va_putF (ref := (TX0 1).1) (ty := (tyX0 1)) (C := RX0) (T := TX0) (N := 8) hx hb hts inT0 tyX0 tyX0_ok nmX0 hown hK hP hD hS 0 rfl rfl 1 (by decide) (hts _ tw_1_29) (fun _ h => h) rfl hin rfl (tyX0_ok 1 (by decide)) rfl rfl (Nat.le_of_ble_eq_true rfl) (by decide +kernel) (fun H locs hP hD hS => ?_)
  have hP : va_P D vwCl [(h0, .inr (0, [.ref q1, .ref q2, .null, .null, .int 0, .int 0, .int 0, .int 0])), (q1, .inl (cI, 12, .inl fun _ => 0)), (q2, .inl (cI, 12, .inl fun _ => 0))] H := hP
  have hD : va_D A [(h0, .inr (0, [.ref q1, .ref q2, .null, .null, .int 0, .int 0, .int 0, .int 0])), (q1, .inl (cI, 12, .inl fun _ => 0)), (q2, .inl (cI, 12, .inl fun _ => 0))] := hD
  refine lv_aload_n (k := 0) hx hb (by decide +kernel) rfl (lv_at hl 0 rfl) ?_
  refine lv_bipush (n := (12)) (v := (12)) hx hb (by decide +kernel) (by decide) ?_
  refine w_newI (n := 12) (N' := 12) hx hb (hts _ tw_1_62) hK hP hD hS hA (by decide) (by decide) (by decide) (Nat.le_of_ble_eq_true rfl) (Nat.le_of_ble_eq_true rfl) (by decide +kernel) (fun q3 H hP hD hS => ?_)
  have hP : va_P D vwCl [(h0, .inr (0, [.ref q1, .ref q2, .null, .null, .int 0, .int 0, .int 0, .int 0])), (q1, .inl (cI, 12, .inl fun _ => 0)), (q2, .inl (cI, 12, .inl fun _ => 0)), (q3, .inl (cI, 12, .inl fun _ => 0))] H := hP
  have hD : va_D A [(h0, .inr (0, [.ref q1, .ref q2, .null, .null, .int 0, .int 0, .int 0, .int 0])), (q1, .inl (cI, 12, .inl fun _ => 0)), (q2, .inl (cI, 12, .inl fun _ => 0)), (q3, .inl (cI, 12, .inl fun _ => 0))] := hD
  refine W.widen (k := 3) (n := 36) (Nat.le_of_ble_eq_true rfl) (Nat.le_of_ble_eq_true rfl) ?_
  refine va_putF (ref := (TX0 2).1) (ty := (tyX0 2)) (C := RX0) (T := TX0) (N := 8) hx hb hts inT0 tyX0 tyX0_ok nmX0 hown hK hP hD hS 0 rfl rfl 2 (by decide) (hts _ tw_1_32) (fun _ h => h) rfl hin rfl (tyX0_ok 2 (by decide)) rfl rfl (Nat.le_of_ble_eq_true rfl) (by decide +kernel) (fun H locs hP hD hS => ?_)
  have hP : va_P D vwCl [(h0, .inr (0, [.ref q1, .ref q2, .ref q3, .null, .int 0, .int 0, .int 0, .int 0])), (q1, .inl (cI, 12, .inl fun _ => 0)), (q2, .inl (cI, 12, .inl fun _ => 0)), (q3, .inl (cI, 12, .inl fun _ => 0))] H := hP
  have hD : va_D A [(h0, .inr (0, [.ref q1, .ref q2, .ref q3, .null, .int 0, .int 0, .int 0, .int 0])), (q1, .inl (cI, 12, .inl fun _ => 0)), (q2, .inl (cI, 12, .inl fun _ => 0)), (q3, .inl (cI, 12, .inl fun _ => 0))] := hD
  refine lv_aload_n (k := 0) hx hb (by decide +kernel) rfl (lv_at hl 0 rfl) ?_
  refine lv_bipush (n := (120)) (v := (120)) hx hb (by decide +kernel) (by decide) ?_
  refine w_newI (n := 120) (N' := 120) hx hb (hts _ tw_1_62) hK hP hD hS hA (by decide) (by decide) (by decide) (Nat.le_of_ble_eq_true rfl) (Nat.le_of_ble_eq_true rfl) (by decide +kernel) (fun q4 H hP hD hS => ?_)
  have hP : va_P D vwCl [(h0, .inr (0, [.ref q1, .ref q2, .ref q3, .null, .int 0, .int 0, .int 0, .int 0])), (q1, .inl (cI, 12, .inl fun _ => 0)), (q2, .inl (cI, 12, .inl fun _ => 0)), (q3, .inl (cI, 12, .inl fun _ => 0)), (q4, .inl (cI, 120, .inl fun _ => 0))] H := hP
  have hD : va_D A [(h0, .inr (0, [.ref q1, .ref q2, .ref q3, .null, .int 0, .int 0, .int 0, .int 0])), (q1, .inl (cI, 12, .inl fun _ => 0)), (q2, .inl (cI, 12, .inl fun _ => 0)), (q3, .inl (cI, 12, .inl fun _ => 0)), (q4, .inl (cI, 120, .inl fun _ => 0))] := hD
  refine W.widen (k := 4) (n := 156) (Nat.le_of_ble_eq_true rfl) (Nat.le_of_ble_eq_true rfl) ?_
  refine va_putF (ref := (TX0 3).1) (ty := (tyX0 3)) (C := RX0) (T := TX0) (N := 8) hx hb hts inT0 tyX0 tyX0_ok nmX0 hown hK hP hD hS 0 rfl rfl 3 (by decide) (hts _ tw_1_35) (fun _ h => h) rfl hin rfl (tyX0_ok 3 (by decide)) rfl rfl (Nat.le_of_ble_eq_true rfl) (by decide +kernel) (fun H locs hP hD hS => ?_)
  have hP : va_P D vwCl [(h0, .inr (0, [.ref q1, .ref q2, .ref q3, .ref q4, .int 0, .int 0, .int 0, .int 0])), (q1, .inl (cI, 12, .inl fun _ => 0)), (q2, .inl (cI, 12, .inl fun _ => 0)), (q3, .inl (cI, 12, .inl fun _ => 0)), (q4, .inl (cI, 120, .inl fun _ => 0))] H := hP
  have hD : va_D A [(h0, .inr (0, [.ref q1, .ref q2, .ref q3, .ref q4, .int 0, .int 0, .int 0, .int 0])), (q1, .inl (cI, 12, .inl fun _ => 0)), (q2, .inl (cI, 12, .inl fun _ => 0)), (q3, .inl (cI, 12, .inl fun _ => 0)), (q4, .inl (cI, 120, .inl fun _ => 0))] := hD
  refine lv_aload_n (k := 0) hx hb (by decide +kernel) rfl (lv_at hl 0 rfl) ?_
  refine lv_iconst (n := (0)) (v := (0)) hx hb (by decide +kernel) (by decide) ?_
  refine va_put (ref := (TX0 4).1) (ty := (tyX0 4)) (C := RX0) (T := TX0) (N := 8) hx hb hts inT0 tyX0 tyX0_ok nmX0 hown hK hP hD hS 0 rfl rfl 4 (by decide) (hts _ tw_1_36) (fun _ h => h) rfl (tyX0_ok 4 (by decide)) rfl rfl (Nat.le_of_ble_eq_true rfl) (by decide +kernel) (fun H locs hP hD hS => ?_)
  have hP : va_P D vwCl [(h0, .inr (0, [.ref q1, .ref q2, .ref q3, .ref q4, .int 0, .int 0, .int 0, .int 0])), (q1, .inl (cI, 12, .inl fun _ => 0)), (q2, .inl (cI, 12, .inl fun _ => 0)), (q3, .inl (cI, 12, .inl fun _ => 0)), (q4, .inl (cI, 120, .inl fun _ => 0))] H := hP
  have hD : va_D A [(h0, .inr (0, [.ref q1, .ref q2, .ref q3, .ref q4, .int 0, .int 0, .int 0, .int 0])), (q1, .inl (cI, 12, .inl fun _ => 0)), (q2, .inl (cI, 12, .inl fun _ => 0)), (q3, .inl (cI, 12, .inl fun _ => 0)), (q4, .inl (cI, 120, .inl fun _ => 0))] := hD
  refine lv_aload_n (k := 0) hx hb (by decide +kernel) rfl (lv_at hl 0 rfl) ?_
  refine lv_iconst (n := (0)) (v := (0)) hx hb (by decide +kernel) (by decide) ?_
  refine va_put (ref := (TX0 5).1) (ty := (tyX0 5)) (C := RX0) (T := TX0) (N := 8) hx hb hts inT0 tyX0 tyX0_ok nmX0 hown hK hP hD hS 0 rfl rfl 5 (by decide) (hts _ tw_1_38) (fun _ h => h) rfl (tyX0_ok 5 (by decide)) rfl rfl (Nat.le_of_ble_eq_true rfl) (by decide +kernel) (fun H locs hP hD hS => ?_)
  have hP : va_P D vwCl [(h0, .inr (0, [.ref q1, .ref q2, .ref q3, .ref q4, .int 0, .int 0, .int 0, .int 0])), (q1, .inl (cI, 12, .inl fun _ => 0)), (q2, .inl (cI, 12, .inl fun _ => 0)), (q3, .inl (cI, 12, .inl fun _ => 0)), (q4, .inl (cI, 120, .inl fun _ => 0))] H := hP
  have hD : va_D A [(h0, .inr (0, [.ref q1, .ref q2, .ref q3, .ref q4, .int 0, .int 0, .int 0, .int 0])), (q1, .inl (cI, 12, .inl fun _ => 0)), (q2, .inl (cI, 12, .inl fun _ => 0)), (q3, .inl (cI, 12, .inl fun _ => 0)), (q4, .inl (cI, 120, .inl fun _ => 0))] := hD
  refine lv_aload_n (k := 0) hx hb (by decide +kernel) rfl (lv_at hl 0 rfl) ?_
  refine lv_bipush (n := (20)) (v := (20)) hx hb (by decide +kernel) (by decide) ?_
  refine va_put (ref := (TX0 6).1) (ty := (tyX0 6)) (C := RX0) (T := TX0) (N := 8) hx hb hts inT0 tyX0 tyX0_ok nmX0 hown hK hP hD hS 0 rfl rfl 6 (by decide) (hts _ tw_1_41) (fun _ h => h) rfl (tyX0_ok 6 (by decide)) rfl rfl (Nat.le_of_ble_eq_true rfl) (by decide +kernel) (fun H locs hP hD hS => ?_)
  have hP : va_P D vwCl [(h0, .inr (0, [.ref q1, .ref q2, .ref q3, .ref q4, .int 0, .int 0, .int 20, .int 0])), (q1, .inl (cI, 12, .inl fun _ => 0)), (q2, .inl (cI, 12, .inl fun _ => 0)), (q3, .inl (cI, 12, .inl fun _ => 0)), (q4, .inl (cI, 120, .inl fun _ => 0))] H := hP
  have hD : va_D A [(h0, .inr (0, [.ref q1, .ref q2, .ref q3, .ref q4, .int 0, .int 0, .int 20, .int 0])), (q1, .inl (cI, 12, .inl fun _ => 0)), (q2, .inl (cI, 12, .inl fun _ => 0)), (q3, .inl (cI, 12, .inl fun _ => 0)), (q4, .inl (cI, 120, .inl fun _ => 0))] := hD
  refine lv_aload_n (k := 0) hx hb (by decide +kernel) rfl (lv_at hl 0 rfl) ?_
  refine lv_iconst (n := (5)) (v := (5)) hx hb (by decide +kernel) (by decide) ?_
  refine va_put (ref := (TX0 7).1) (ty := (tyX0 7)) (C := RX0) (T := TX0) (N := 8) hx hb hts inT0 tyX0 tyX0_ok nmX0 hown hK hP hD hS 0 rfl rfl 7 (by decide) (hts _ tw_1_43) (fun _ h => h) rfl (tyX0_ok 7 (by decide)) rfl rfl (Nat.le_of_ble_eq_true rfl) (by decide +kernel) (fun H locs hP hD hS => ?_)
  have hP : va_P D vwCl [(h0, .inr (0, [.ref q1, .ref q2, .ref q3, .ref q4, .int 0, .int 0, .int 20, .int 5])), (q1, .inl (cI, 12, .inl fun _ => 0)), (q2, .inl (cI, 12, .inl fun _ => 0)), (q3, .inl (cI, 12, .inl fun _ => 0)), (q4, .inl (cI, 120, .inl fun _ => 0))] H := hP
  have hD : va_D A [(h0, .inr (0, [.ref q1, .ref q2, .ref q3, .ref q4, .int 0, .int 0, .int 20, .int 5])), (q1, .inl (cI, 12, .inl fun _ => 0)), (q2, .inl (cI, 12, .inl fun _ => 0)), (q3, .inl (cI, 12, .inl fun _ => 0)), (q4, .inl (cI, 120, .inl fun _ => 0))] := hD
  have hP9 := hP.sub (ws' := [(h0, .inr (0, [.ref q1, .ref q2, .ref q3, .ref q4, .int 0, .int 0, .int 20, .int 5])), (q1, .inl (cI, 12, .inl fun _ => 0)), (q2, .inl (cI, 12, .inl fun _ => 0)), (q3, .inl (cI, 12, .inl fun _ => 0)), (q4, .inl (cI, 120, .inl fun _ => 0))]) [0, 1, 2, 3, 4] rfl
  have hD9 := hD.sub (ws' := [(h0, .inr (0, [.ref q1, .ref q2, .ref q3, .ref q4, .int 0, .int 0, .int 20, .int 5])), (q1, .inl (cI, 12, .inl fun _ => 0)), (q2, .inl (cI, 12, .inl fun _ => 0)), (q3, .inl (cI, 12, .inl fun _ => 0)), (q4, .inl (cI, 120, .inl fun _ => 0))]) [0, 1, 2, 3, 4] (by decide) rfl
  exact W.vret hx hb hr (fun t ht hW => ⟨⟨_, rfl, ⟨q1, q2, q3, q4, rfl⟩, by rw [ht]; exact hP9, hD9⟩, hS.F ht⟩) hS.2.2 (by decide +kernel)
set_option maxHeartbeats 8000000 in
set_option maxRecDepth 100000 in
theorem c_X2 (l : Launch) (D : va_G) (cI cZ cO : ClassId) (h0  : Nat) : MkI l D cI cZ cO yX2_init cX2_init 1 1 30 2 480 [.ref h0] [(h0, .inr (2, [.null, .null, .int 0, .int 0, .int 0]))] (fun w => ∃ q1 q2 : Nat, w = [(h0, .inr (2, [.ref q1, .ref q2, .int 0, .int 0, .int 20])), (q1, .inl (cI, 240, .inl fun _ => 0)), (q2, .inl (cI, 240, .inl fun _ => 0))]) := by
  intro sz
  refine Met.ofW (cc := cX2_init) (maxL := 1) (ret := none) (by decide +kernel) rfl ?_
  intro p e s m args below meth c s₁ B hml hv
  obtain ⟨rfl, hsz, hP, hKU, hD0⟩ := hv
  have hx := B.exec
  have hb := B.bytes
  have hr := B.returns
  have hts0 := atoms_spec (ws := Cond.code yX2_init cX2_init 1 none :: TB) B.pre
  have hts : ∀ w ∈ TB, w.before _ s = true := fun w h => hts0 w (List.mem_cons_of_mem _ h)
  have hown : s.vm.findClass RX2 = some m.cls := findClass_of_methodNamed B.named
  have hlocks := B.notSynchronized
  have hin : meth.name = "<init>" := (name_of_methodNamed B.named B.method).1
  subst hsz
  have hD := hD0.self (sz := s.heap.size)
  generalize hAe : va_A [(h0, .inr (2, [.null, .null, .int 0, .int 0, .int 0]))] s.heap.size = A at hD ⊢
  have hA : ∀ q : Nat, s.heap.size ≤ q → A q := fun q h => by rw [← hAe]; exact Or.inr h
  have hS : va_S A s.heap s.heap [] := va_S.rf
  have hK := hKU.1
  have hl := lv_entry ([.ref h0]) (n := 1) (Nat.le_of_ble_eq_true rfl)
  rw [lg_entry_eq]
  generalize (lg_sl ([.ref h0]) ++ List.replicate (1 - (lg_sl ([.ref h0])).length) Slot.unset).toArray = ls at hl ⊢
  have hl : lv_has ls 1 [(0, .ref h0)] := hl
  refine lv_aload_n (k := 0) hx hb (by decide +kernel) rfl (lv_at hl 0 rfl) ?_
  refine W.objInit hx hb hown (hts _ tw_1_135) (hts _ tw_1_17) (hts _ tw_obj) rfl (by rw [hml]; exact hl.1) rfl (show decode cX2_init 1 = .ok (.invokespecial 3, 3) by decide +kernel) (Nat.le_of_ble_eq_true rfl) (Nat.le_of_ble_eq_true rfl) ?_
  refine W.eq (g2 := F0 m 4 ls []) rfl ?_
  refine lv_aload_n (k := 0) hx hb (by decide +kernel) rfl (lv_at hl 0 rfl) ?_
  refine lv_sipush (n := (240)) (v := (240)) hx hb (by decide +kernel) (by decide) ?_
  refine w_newI (n := 240) (N' := 240) hx hb (hts _ tw_1_62) hK hP hD hS hA (by decide) (by decide) (by decide) (Nat.le_of_ble_eq_true rfl) (Nat.le_of_ble_eq_true rfl) (by decide +kernel) (fun q1 H hP hD hS => ?_)
  have hP : va_P D vwCl [(h0, .inr (2, [.null, .null, .int 0, .int 0, .int 0])), (q1, .inl (cI, 240, .inl fun _ => 0))] H := hP
  have hD : va_D A [(h0, .inr (2, [.null, .null, .int 0, .int 0, .int 0])), (q1, .inl (cI, 240, .inl fun _ => 0))] := hD
  refine W.widen (k := 1) (n := 240) (Nat.le_of_ble_eq_true rfl) (Nat.le_of_ble_eq_true rfl) ?_
  refine va_putF (ref := (TX2 0).1) (ty := (tyX2 0)) (C := RX2) (T := TX2) (N := 5) hx hb hts inT2 tyX2 tyX2_ok nmX2 hown hK hP hD hS 0 rfl rfl 0 (by decide) (hts _ tw_1_136) (fun _ h => h) rfl hin rfl (tyX2_ok 0 (by decide)) rfl rfl (Nat.le_of_ble_eq_true rfl) (by decide +kernel) (fun H locs hP hD hS => ?_)
  have hP : va_P D vwCl [(h0, .inr (2, [.ref q1, .null, .int 0, .int 0, .int 0])), (q1, .inl (cI, 240, .inl fun _ => 0))] H := hP
  have hD : va_D A [(h0, .inr (2, [.ref q1, .null, .int 0, .int 0, .int 0])), (q1, .inl (cI, 240, .inl fun _ => 0))] := hD
  refine lv_aload_n (k := 0) hx hb (by decide +kernel) rfl (lv_at hl 0 rfl) ?_
  refine lv_sipush (n := (240)) (v := (240)) hx hb (by decide +kernel) (by decide) ?_
  refine w_newI (n := 240) (N' := 240) hx hb (hts _ tw_1_62) hK hP hD hS hA (by decide) (by decide) (by decide) (Nat.le_of_ble_eq_true rfl) (Nat.le_of_ble_eq_true rfl) (by decide +kernel) (fun q2 H hP hD hS => ?_)
  have hP : va_P D vwCl [(h0, .inr (2, [.ref q1, .null, .int 0, .int 0, .int 0])), (q1, .inl (cI, 240, .inl fun _ => 0)), (q2, .inl (cI, 240, .inl fun _ => 0))] H := hP
  have hD : va_D A [(h0, .inr (2, [.ref q1, .null, .int 0, .int 0, .int 0])), (q1, .inl (cI, 240, .inl fun _ => 0)), (q2, .inl (cI, 240, .inl fun _ => 0))] := hD
  refine W.widen (k := 2) (n := 480) (Nat.le_of_ble_eq_true rfl) (Nat.le_of_ble_eq_true rfl) ?_
  refine va_putF (ref := (TX2 1).1) (ty := (tyX2 1)) (C := RX2) (T := TX2) (N := 5) hx hb hts inT2 tyX2 tyX2_ok nmX2 hown hK hP hD hS 0 rfl rfl 1 (by decide) (hts _ tw_1_137) (fun _ h => h) rfl hin rfl (tyX2_ok 1 (by decide)) rfl rfl (Nat.le_of_ble_eq_true rfl) (by decide +kernel) (fun H locs hP hD hS => ?_)
  have hP : va_P D vwCl [(h0, .inr (2, [.ref q1, .ref q2, .int 0, .int 0, .int 0])), (q1, .inl (cI, 240, .inl fun _ => 0)), (q2, .inl (cI, 240, .inl fun _ => 0))] H := hP
  have hD : va_D A [(h0, .inr (2, [.ref q1, .ref q2, .int 0, .int 0, .int 0])), (q1, .inl (cI, 240, .inl fun _ => 0)), (q2, .inl (cI, 240, .inl fun _ => 0))] := hD
  refine lv_aload_n (k := 0) hx hb (by decide +kernel) rfl (lv_at hl 0 rfl) ?_
  refine lv_iconst (n := (0)) (v := (0)) hx hb (by decide +kernel) (by decide) ?_
  refine va_put (ref := (TX2 2).1) (ty := (tyX2 2)) (C := RX2) (T := TX2) (N := 5) hx hb hts inT2 tyX2 tyX2_ok nmX2 hown hK hP hD hS 0 rfl rfl 2 (by decide) (hts _ tw_1_138) (fun _ h => h) rfl (tyX2_ok 2 (by decide)) rfl rfl (Nat.le_of_ble_eq_true rfl) (by decide +kernel) (fun H locs hP hD hS => ?_)
  have hP : va_P D vwCl [(h0, .inr (2, [.ref q1, .ref q2, .int 0, .int 0, .int 0])), (q1, .inl (cI, 240, .inl fun _ => 0)), (q2, .inl (cI, 240, .inl fun _ => 0))] H := hP
  have hD : va_D A [(h0, .inr (2, [.ref q1, .ref q2, .int 0, .int 0, .int 0])), (q1, .inl (cI, 240, .inl fun _ => 0)), (q2, .inl (cI, 240, .inl fun _ => 0))] := hD
  refine lv_aload_n (k := 0) hx hb (by decide +kernel) rfl (lv_at hl 0 rfl) ?_
  refine lv_iconst (n := (0)) (v := (0)) hx hb (by decide +kernel) (by decide) ?_
  refine va_put (ref := (TX2 3).1) (ty := (tyX2 3)) (C := RX2) (T := TX2) (N := 5) hx hb hts inT2 tyX2 tyX2_ok nmX2 hown hK hP hD hS 0 rfl rfl 3 (by decide) (hts _ tw_1_139) (fun _ h => h) rfl (tyX2_ok 3 (by decide)) rfl rfl (Nat.le_of_ble_eq_true rfl) (by decide +kernel) (fun H locs hP hD hS => ?_)
  have hP : va_P D vwCl [(h0, .inr (2, [.ref q1, .ref q2, .int 0, .int 0, .int 0])), (q1, .inl (cI, 240, .inl fun _ => 0)), (q2, .inl (cI, 240, .inl fun _ => 0))] H := hP
  have hD : va_D A [(h0, .inr (2, [.ref q1, .ref q2, .int 0, .int 0, .int 0])), (q1, .inl (cI, 240, .inl fun _ => 0)), (q2, .inl (cI, 240, .inl fun _ => 0))] := hD
  refine lv_aload_n (k := 0) hx hb (by decide +kernel) rfl (lv_at hl 0 rfl) ?_
  refine lv_bipush (n := (20)) (v := (20)) hx hb (by decide +kernel) (by decide) ?_
  refine va_put (ref := (TX2 4).1) (ty := (tyX2 4)) (C := RX2) (T := TX2) (N := 5) hx hb hts inT2 tyX2 tyX2_ok nmX2 hown hK hP hD hS 0 rfl rfl 4 (by decide) (hts _ tw_1_140) (fun _ h => h) rfl (tyX2_ok 4 (by decide)) rfl rfl (Nat.le_of_ble_eq_true rfl) (by decide +kernel) (fun H locs hP hD hS => ?_)
  have hP : va_P D vwCl [(h0, .inr (2, [.ref q1, .ref q2, .int 0, .int 0, .int 20])), (q1, .inl (cI, 240, .inl fun _ => 0)), (q2, .inl (cI, 240, .inl fun _ => 0))] H := hP
  have hD : va_D A [(h0, .inr (2, [.ref q1, .ref q2, .int 0, .int 0, .int 20])), (q1, .inl (cI, 240, .inl fun _ => 0)), (q2, .inl (cI, 240, .inl fun _ => 0))] := hD
  have hP9 := hP.sub (ws' := [(h0, .inr (2, [.ref q1, .ref q2, .int 0, .int 0, .int 20])), (q1, .inl (cI, 240, .inl fun _ => 0)), (q2, .inl (cI, 240, .inl fun _ => 0))]) [0, 1, 2] rfl
  have hD9 := hD.sub (ws' := [(h0, .inr (2, [.ref q1, .ref q2, .int 0, .int 0, .int 20])), (q1, .inl (cI, 240, .inl fun _ => 0)), (q2, .inl (cI, 240, .inl fun _ => 0))]) [0, 1, 2] (by decide) rfl
  exact W.vret hx hb hr (fun t ht hW => ⟨⟨_, rfl, ⟨q1, q2, rfl⟩, by rw [ht]; exact hP9, hD9⟩, hS.F ht⟩) hS.2.2 (by decide +kernel)
set_option maxHeartbeats 8000000 in
set_option maxRecDepth 100000 in
theorem c_X3 (l : Launch) (D : va_G) (cI cZ cO : ClassId) (h0  : Nat) : MkI l D cI cZ cO yX3_init cX3_init 1 1 30 0 0 [.ref h0] [(h0, .inr (3, [.long 0]))] (fun w =>  w = [(h0, .inr (3, [.long 1]))]) := by
  intro sz
  refine Met.ofW (cc := cX3_init) (maxL := 1) (ret := none) (by decide +kernel) rfl ?_
  intro p e s m args below meth c s₁ B hml hv
  obtain ⟨rfl, hsz, hP, hKU, hD0⟩ := hv
  have hx := B.exec
  have hb := B.bytes
  have hr := B.returns
  have hts0 := atoms_spec (ws := Cond.code yX3_init cX3_init 1 none :: TB) B.pre
  have hts : ∀ w ∈ TB, w.before _ s = true := fun w h => hts0 w (List.mem_cons_of_mem _ h)
  have hown : s.vm.findClass RX3 = some m.cls := findClass_of_methodNamed B.named
  have hlocks := B.notSynchronized
  have hin : meth.name = "<init>" := (name_of_methodNamed B.named B.method).1
  subst hsz
  have hD := hD0.self (sz := s.heap.size)
  generalize hAe : va_A [(h0, .inr (3, [.long 0]))] s.heap.size = A at hD ⊢
  have hA : ∀ q : Nat, s.heap.size ≤ q → A q := fun q h => by rw [← hAe]; exact Or.inr h
  have hS : va_S A s.heap s.heap [] := va_S.rf
  have hK := hKU.1
  have hl := lv_entry ([.ref h0]) (n := 1) (Nat.le_of_ble_eq_true rfl)
  rw [lg_entry_eq]
  generalize (lg_sl ([.ref h0]) ++ List.replicate (1 - (lg_sl ([.ref h0])).length) Slot.unset).toArray = ls at hl ⊢
  have hl : lv_has ls 1 [(0, .ref h0)] := hl
  refine lv_aload_n (k := 0) hx hb (by decide +kernel) rfl (lv_at hl 0 rfl) ?_
  refine W.objInit hx hb hown (hts _ tw_1_192) (hts _ tw_1_17) (hts _ tw_obj) rfl (by rw [hml]; exact hl.1) rfl (show decode cX3_init 1 = .ok (.invokespecial 1, 3) by decide +kernel) (Nat.le_of_ble_eq_true rfl) (Nat.le_of_ble_eq_true rfl) ?_
  refine W.eq (g2 := F0 m 4 ls []) rfl ?_
  refine lv_aload_n (k := 0) hx hb (by decide +kernel) rfl (lv_at hl 0 rfl) ?_
  refine lv_lconst (n := 1) (v := 1) hx hb (by decide +kernel) (by decide) ?_
  refine va_put (ref := (TX3 0).1) (ty := (tyX3 0)) (C := RX3) (T := TX3) (N := 1) hx hb hts inT3 tyX3 tyX3_ok nmX3 hown hK hP hD hS 0 rfl rfl 0 (by decide) (hts _ tw_1_193) (fun _ h => h) rfl (tyX3_ok 0 (by decide)) rfl rfl (Nat.le_of_ble_eq_true rfl) (by decide +kernel) (fun H locs hP hD hS => ?_)
  have hP : va_P D vwCl [(h0, .inr (3, [.long 1]))] H := hP
  have hD : va_D A [(h0, .inr (3, [.long 1]))] := hD
  have hP9 := hP.sub (ws' := [(h0, .inr (3, [.long 1]))]) [0] rfl
  have hD9 := hD.sub (ws' := [(h0, .inr (3, [.long 1]))]) [0] (by decide) rfl
  exact W.vret hx hb hr (fun t ht hW => ⟨⟨_, rfl, rfl, by rw [ht]; exact hP9, hD9⟩, hS.F ht⟩) hS.2.2 (by decide +kernel)
set_option maxHeartbeats 8000000 in
set_option maxRecDepth 100000 in
theorem c_X4 (l : Launch) (D : va_G) (cI cZ cO : ClassId) (h0 a1 a2 : Nat) : MkI l D cI cZ cO yX4_init cX4_init 3 1 30 1 960 [.ref h0, .ref a1, .ref a2] [(h0, .inr (4, [.null, .int 0, .int 0, .int 0, .null, .null, .int 0, .int 0]))] (fun w => ∃ q1 : Nat, w = [(h0, .inr (4, [.ref q1, .int 0, .int 0, .int (-1), .ref a1, .ref a2, .int 0, .int (-1)])), (q1, .inl (cI, 960, .inl fun _ => 0))]) := by
  intro sz
  refine Met.ofW (cc := cX4_init) (maxL := 3) (ret := none) (by decide +kernel) rfl ?_
  intro p e s m args below meth c s₁ B hml hv
  obtain ⟨rfl, hsz, hP, hKU, hD0⟩ := hv
  have hx := B.exec
  have hb := B.bytes
  have hr := B.returns
  have hts0 := atoms_spec (ws := Cond.code yX4_init cX4_init 3 none :: TB) B.pre
  have hts : ∀ w ∈ TB, w.before _ s = true := fun w h => hts0 w (List.mem_cons_of_mem _ h)
  have hown : s.vm.findClass RX4 = some m.cls := findClass_of_methodNamed B.named
  have hlocks := B.notSynchronized
  have hin : meth.name = "<init>" := (name_of_methodNamed B.named B.method).1
  subst hsz
  have hD := hD0.self (sz := s.heap.size)
  generalize hAe : va_A [(h0, .inr (4, [.null, .int 0, .int 0, .int 0, .null, .null, .int 0, .int 0]))] s.heap.size = A at hD ⊢
  have hA : ∀ q : Nat, s.heap.size ≤ q → A q := fun q h => by rw [← hAe]; exact Or.inr h
  have hS : va_S A s.heap s.heap [] := va_S.rf
  have hK := hKU.1
  have hl := lv_entry ([.ref h0, .ref a1, .ref a2]) (n := 3) (Nat.le_of_ble_eq_true rfl)
  rw [lg_entry_eq]
  generalize (lg_sl ([.ref h0, .ref a1, .ref a2]) ++ List.replicate (3 - (lg_sl ([.ref h0, .ref a1, .ref a2])).length) Slot.unset).toArray = ls at hl ⊢
  have hl : lv_has ls 3 [(0, .ref h0), (1, .ref a1), (2, .ref a2)] := hl
  refine lv_aload_n (k := 0) hx hb (by decide +kernel) rfl (lv_at hl 0 rfl) ?_
  refine W.objInit hx hb hown (hts _ tw_1_157) (hts _ tw_1_17) (hts _ tw_obj) rfl (by rw [hml]; exact hl.1) rfl (show decode cX4_init 1 = .ok (.invokespecial 3, 3) by decide +kernel) (Nat.le_of_ble_eq_true rfl) (Nat.le_of_ble_eq_true rfl) ?_
  refine W.eq (g2 := F0 m 4 ls []) rfl ?_
  refine lv_aload_n (k := 0) hx hb (by decide +kernel) rfl (lv_at hl 0 rfl) ?_
  refine lv_sipush (n := (960)) (v := (960)) hx hb (by decide +kernel) (by decide) ?_
  refine w_newI (n := 960) (N' := 960) hx hb (hts _ tw_1_62) hK hP hD hS hA (by decide) (by decide) (by decide) (Nat.le_of_ble_eq_true rfl) (Nat.le_of_ble_eq_true rfl) (by decide +kernel) (fun q1 H hP hD hS => ?_)
  have hP : va_P D vwCl [(h0, .inr (4, [.null, .int 0, .int 0, .int 0, .null, .null, .int 0, .int 0])), (q1, .inl (cI, 960, .inl fun _ => 0))] H := hP
  have hD : va_D A [(h0, .inr (4, [.null, .int 0, .int 0, .int 0, .null, .null, .int 0, .int 0])), (q1, .inl (cI, 960, .inl fun _ => 0))] := hD
  refine W.widen (k := 1) (n := 960) (Nat.le_of_ble_eq_true rfl) (Nat.le_of_ble_eq_true rfl) ?_
  refine va_putF (ref := (TX4 0).1) (ty := (tyX4 0)) (C := RX4) (T := TX4) (N := 8) hx hb hts inT4 tyX4 tyX4_ok nmX4 hown hK hP hD hS 0 rfl rfl 0 (by decide) (hts _ tw_1_158) (fun _ h => h) rfl hin rfl (tyX4_ok 0 (by decide)) rfl rfl (Nat.le_of_ble_eq_true rfl) (by decide +kernel) (fun H locs hP hD hS => ?_)
  have hP : va_P D vwCl [(h0, .inr (4, [.ref q1, .int 0, .int 0, .int 0, .null, .null, .int 0, .int 0])), (q1, .inl (cI, 960, .inl fun _ => 0))] H := hP
  have hD : va_D A [(h0, .inr (4, [.ref q1, .int 0, .int 0, .int 0, .null, .null, .int 0, .int 0])), (q1, .inl (cI, 960, .inl fun _ => 0))] := hD
  refine lv_aload_n (k := 0) hx hb (by decide +kernel) rfl (lv_at hl 0 rfl) ?_
  refine lv_iconst (n := (0)) (v := (0)) hx hb (by decide +kernel) (by decide) ?_
  refine va_put (ref := (TX4 1).1) (ty := (tyX4 1)) (C := RX4) (T := TX4) (N := 8) hx hb hts inT4 tyX4 tyX4_ok nmX4 hown hK hP hD hS 0 rfl rfl 1 (by decide) (hts _ tw_1_160) (fun _ h => h) rfl (tyX4_ok 1 (by decide)) rfl rfl (Nat.le_of_ble_eq_true rfl) (by decide +kernel) (fun H locs hP hD hS => ?_)
  have hP : va_P D vwCl [(h0, .inr (4, [.ref q1, .int 0, .int 0, .int 0, .null, .null, .int 0, .int 0])), (q1, .inl (cI, 960, .inl fun _ => 0))] H := hP
  have hD : va_D A [(h0, .inr (4, [.ref q1, .int 0, .int 0, .int 0, .null, .null, .int 0, .int 0])), (q1, .inl (cI, 960, .inl fun _ => 0))] := hD
  refine lv_aload_n (k := 0) hx hb (by decide +kernel) rfl (lv_at hl 0 rfl) ?_
  refine lv_iconst (n := (0)) (v := (0)) hx hb (by decide +kernel) (by decide) ?_
  refine va_put (ref := (TX4 2).1) (ty := (tyX4 2)) (C := RX4) (T := TX4) (N := 8) hx hb hts inT4 tyX4 tyX4_ok nmX4 hown hK hP hD hS 0 rfl rfl 2 (by decide) (hts _ tw_1_162) (fun _ h => h) rfl (tyX4_ok 2 (by decide)) rfl rfl (Nat.le_of_ble_eq_true rfl) (by decide +kernel) (fun H locs hP hD hS => ?_)
  have hP : va_P D vwCl [(h0, .inr (4, [.ref q1, .int 0, .int 0, .int 0, .null, .null, .int 0, .int 0])), (q1, .inl (cI, 960, .inl fun _ => 0))] H := hP
  have hD : va_D A [(h0, .inr (4, [.ref q1, .int 0, .int 0, .int 0, .null, .null, .int 0, .int 0])), (q1, .inl (cI, 960, .inl fun _ => 0))] := hD
  refine lv_aload_n (k := 0) hx hb (by decide +kernel) rfl (lv_at hl 0 rfl) ?_
  refine lv_iconst (n := (-1)) (v := (-1)) hx hb (by decide +kernel) (by decide) ?_
  refine va_put (ref := (TX4 3).1) (ty := (tyX4 3)) (C := RX4) (T := TX4) (N := 8) hx hb hts inT4 tyX4 tyX4_ok nmX4 hown hK hP hD hS 0 rfl rfl 3 (by decide) (hts _ tw_1_164) (fun _ h => h) rfl (tyX4_ok 3 (by decide)) rfl rfl (Nat.le_of_ble_eq_true rfl) (by decide +kernel) (fun H locs hP hD hS => ?_)
  have hP : va_P D vwCl [(h0, .inr (4, [.ref q1, .int 0, .int 0, .int (-1), .null, .null, .int 0, .int 0])), (q1, .inl (cI, 960, .inl fun _ => 0))] H := hP
  have hD : va_D A [(h0, .inr (4, [.ref q1, .int 0, .int 0, .int (-1), .null, .null, .int 0, .int 0])), (q1, .inl (cI, 960, .inl fun _ => 0))] := hD
  refine lv_aload_n (k := 0) hx hb (by decide +kernel) rfl (lv_at hl 0 rfl) ?_
  refine lv_iconst (n := (0)) (v := (0)) hx hb (by decide +kernel) (by decide) ?_
  refine va_put (ref := (TX4 6).1) (ty := (tyX4 6)) (C := RX4) (T := TX4) (N := 8) hx hb hts inT4 tyX4 tyX4_ok nmX4 hown hK hP hD hS 0 rfl rfl 6 (by decide) (hts _ tw_1_168) (fun _ h => h) rfl (tyX4_ok 6 (by decide)) rfl rfl (Nat.le_of_ble_eq_true rfl) (by decide +kernel) (fun H locs hP hD hS => ?_)
  have hP : va_P D vwCl [(h0, .inr (4, [.ref q1, .int 0, .int 0, .int (-1), .null, .null, .int 0, .int 0])), (q1, .inl (cI, 960, .inl fun _ => 0))] H := hP
  have hD : va_D A [(h0, .inr (4, [.ref q1, .int 0, .int 0, .int (-1), .null, .null, .int 0, .int 0])), (q1, .inl (cI, 960, .inl fun _ => 0))] := hD
  refine lv_aload_n (k := 0) hx hb (by decide +kernel) rfl (lv_at hl 0 rfl) ?_
  refine lv_iconst (n := (-1)) (v := (-1)) hx hb (by decide +kernel) (by decide) ?_
  refine va_put (ref := (TX4 7).1) (ty := (tyX4 7)) (C := RX4) (T := TX4) (N := 8) hx hb hts inT4 tyX4 tyX4_ok nmX4 hown hK hP hD hS 0 rfl rfl 7 (by decide) (hts _ tw_1_169) (fun _ h => h) rfl (tyX4_ok 7 (by decide)) rfl rfl (Nat.le_of_ble_eq_true rfl) (by decide +kernel) (fun H locs hP hD hS => ?_)
  have hP : va_P D vwCl [(h0, .inr (4, [.ref q1, .int 0, .int 0, .int (-1), .null, .null, .int 0, .int (-1)])), (q1, .inl (cI, 960, .inl fun _ => 0))] H := hP
  have hD : va_D A [(h0, .inr (4, [.ref q1, .int 0, .int 0, .int (-1), .null, .null, .int 0, .int (-1)])), (q1, .inl (cI, 960, .inl fun _ => 0))] := hD
  refine lv_aload_n (k := 0) hx hb (by decide +kernel) rfl (lv_at hl 0 rfl) ?_
  refine lv_aload_n (k := 1) hx hb (by decide +kernel) rfl (lv_at hl 1 rfl) ?_
  refine va_putF (ref := (TX4 4).1) (ty := (tyX4 4)) (C := RX4) (T := TX4) (N := 8) hx hb hts inT4 tyX4 tyX4_ok nmX4 hown hK hP hD hS 0 rfl rfl 4 (by decide) (hts _ tw_1_166) (fun _ h => h) rfl hin rfl (tyX4_ok 4 (by decide)) rfl rfl (Nat.le_of_ble_eq_true rfl) (by decide +kernel) (fun H locs hP hD hS => ?_)
  have hP : va_P D vwCl [(h0, .inr (4, [.ref q1, .int 0, .int 0, .int (-1), .ref a1, .null, .int 0, .int (-1)])), (q1, .inl (cI, 960, .inl fun _ => 0))] H := hP
  have hD : va_D A [(h0, .inr (4, [.ref q1, .int 0, .int 0, .int (-1), .ref a1, .null, .int 0, .int (-1)])), (q1, .inl (cI, 960, .inl fun _ => 0))] := hD
  refine lv_aload_n (k := 0) hx hb (by decide +kernel) rfl (lv_at hl 0 rfl) ?_
  refine lv_aload_n (k := 2) hx hb (by decide +kernel) rfl (lv_at hl 2 rfl) ?_
  refine va_putF (ref := (TX4 5).1) (ty := (tyX4 5)) (C := RX4) (T := TX4) (N := 8) hx hb hts inT4 tyX4 tyX4_ok nmX4 hown hK hP hD hS 0 rfl rfl 5 (by decide) (hts _ tw_1_167) (fun _ h => h) rfl hin rfl (tyX4_ok 5 (by decide)) rfl rfl (Nat.le_of_ble_eq_true rfl) (by decide +kernel) (fun H locs hP hD hS => ?_)
  have hP : va_P D vwCl [(h0, .inr (4, [.ref q1, .int 0, .int 0, .int (-1), .ref a1, .ref a2, .int 0, .int (-1)])), (q1, .inl (cI, 960, .inl fun _ => 0))] H := hP
  have hD : va_D A [(h0, .inr (4, [.ref q1, .int 0, .int 0, .int (-1), .ref a1, .ref a2, .int 0, .int (-1)])), (q1, .inl (cI, 960, .inl fun _ => 0))] := hD
  have hP9 := hP.sub (ws' := [(h0, .inr (4, [.ref q1, .int 0, .int 0, .int (-1), .ref a1, .ref a2, .int 0, .int (-1)])), (q1, .inl (cI, 960, .inl fun _ => 0))]) [0, 1] rfl
  have hD9 := hD.sub (ws' := [(h0, .inr (4, [.ref q1, .int 0, .int 0, .int (-1), .ref a1, .ref a2, .int 0, .int (-1)])), (q1, .inl (cI, 960, .inl fun _ => 0))]) [0, 1] (by decide) rfl
  exact W.vret hx hb hr (fun t ht hW => ⟨⟨_, rfl, ⟨q1, rfl⟩, by rw [ht]; exact hP9, hD9⟩, hS.F ht⟩) hS.2.2 (by decide +kernel)
set_option maxHeartbeats 8000000 in
set_option maxRecDepth 100000 in
theorem c_X5 (l : Launch) (D : va_G) (cI cZ cO : ClassId) (h0 a1 : Nat) : MkI l D cI cZ cO yX5_init cX5_init 2 1 30 5 505 [.ref h0, .ref a1] [(h0, .inr (5, [.null, .null, .null, .null, .int 0, .int 0, .int 0, .int 0, .int 0, .int 0, .null, .null]))] (fun w => ∃ q1 q2 q3 q4 q5 : Nat, w = [(h0, .inr (5, [.ref q1, .ref q2, .ref q3, .ref a1, .int 0, .int (-1), .int 0, .int 0, .int 0, .int 0, .ref q4, .ref q5])), (q1, .inl (cI, 240, .inl fun _ => 0)), (q2, .inl (cI, 12, .inl fun _ => 0)), (q3, .inl (cI, 12, .inl fun _ => 0)), (q4, .inl (cI, 120, .inl fun _ => 0)), (q5, .inl (cI, 121, .inl fun _ => 0))]) := by
  intro sz
  refine Met.ofW (cc := cX5_init) (maxL := 2) (ret := none) (by decide +kernel) rfl ?_
  intro p e s m args below meth c s₁ B hml hv
  obtain ⟨rfl, hsz, hP, hKU, hD0⟩ := hv
  have hx := B.exec
  have hb := B.bytes
  have hr := B.returns
  have hts0 := atoms_spec (ws := Cond.code yX5_init cX5_init 2 none :: TB) B.pre
  have hts : ∀ w ∈ TB, w.before _ s = true := fun w h => hts0 w (List.mem_cons_of_mem _ h)
  have hown : s.vm.findClass RX5 = some m.cls := findClass_of_methodNamed B.named
  have hlocks := B.notSynchronized
  have hin : meth.name = "<init>" := (name_of_methodNamed B.named B.method).1
  subst hsz
  have hD := hD0.self (sz := s.heap.size)
  generalize hAe : va_A [(h0, .inr (5, [.null, .null, .null, .null, .int 0, .int 0, .int 0, .int 0, .int 0, .int 0, .null, .null]))] s.heap.size = A at hD ⊢
  have hA : ∀ q : Nat, s.heap.size ≤ q → A q := fun q h => by rw [← hAe]; exact Or.inr h
  have hS : va_S A s.heap s.heap [] := va_S.rf
  have hK := hKU.1
  have hl := lv_entry ([.ref h0, .ref a1]) (n := 2) (Nat.le_of_ble_eq_true rfl)
  rw [lg_entry_eq]
  generalize (lg_sl ([.ref h0, .ref a1]) ++ List.replicate (2 - (lg_sl ([.ref h0, .ref a1])).length) Slot.unset).toArray = ls at hl ⊢
  have hl : lv_has ls 2 [(0, .ref h0), (1, .ref a1)] := hl
  refine lv_aload_n (k := 0) hx hb (by decide +kernel) rfl (lv_at hl 0 rfl) ?_
  refine W.objInit hx hb hown (hts _ tw_1_88) (hts _ tw_1_17) (hts _ tw_obj) rfl (by rw [hml]; exact hl.1) rfl (show decode cX5_init 1 = .ok (.invokespecial 3, 3) by decide +kernel) (Nat.le_of_ble_eq_true rfl) (Nat.le_of_ble_eq_true rfl) ?_
  refine W.eq (g2 := F0 m 4 ls []) rfl ?_
  refine lv_aload_n (k := 0) hx hb (by decide +kernel) rfl (lv_at hl 0 rfl) ?_
  refine lv_sipush (n := (240)) (v := (240)) hx hb (by decide +kernel) (by decide) ?_
  refine w_newI (n := 240) (N' := 240) hx hb (hts _ tw_1_62) hK hP hD hS hA (by decide) (by decide) (by decide) (Nat.le_of_ble_eq_true rfl) (Nat.le_of_ble_eq_true rfl) (by decide +kernel) (fun q1 H hP hD hS => ?_)
  have hP : va_P D vwCl [(h0, .inr (5, [.null, .null, .null, .null, .int 0, .int 0, .int 0, .int 0, .int 0, .int 0, .null, .null])), (q1, .inl (cI, 240, .inl fun _ => 0))] H := hP
  have hD : va_D A [(h0, .inr (5, [.null, .null, .null, .null, .int 0, .int 0, .int 0, .int 0, .int 0, .int 0, .null, .null])), (q1, .inl (cI, 240, .inl fun _ => 0))] := hD
  refine W.widen (k := 1) (n := 240) (Nat.le_of_ble_eq_true rfl) (Nat.le_of_ble_eq_true rfl) ?_
  refine va_putF (ref := (TX5 0).1) (ty := (tyX5 0)) (C := RX5) (T := TX5) (N := 12) hx hb hts inT5 tyX5 tyX5_ok nmX5 hown hK hP hD hS 0 rfl rfl 0 (by decide) (hts _ tw_1_89) (fun _ h => h) rfl hin rfl (tyX5_ok 0 (by decide)) rfl rfl (Nat.le_of_ble_eq_true rfl) (by decide +kernel) (fun H locs hP hD hS => ?_)
  have hP : va_P D vwCl [(h0, .inr (5, [.ref q1, .null, .null, .null, .int 0, .int 0, .int 0, .int 0, .int 0, .int 0, .null, .null])), (q1, .inl (cI, 240, .inl fun _ => 0))] H := hP
  have hD : va_D A [(h0, .inr (5, [.ref q1, .null, .null, .null, .int 0, .int 0, .int 0, .int 0, .int 0, .int 0, .null, .null])), (q1, .inl (cI, 240, .inl fun _ => 0))] := hD
  refine lv_aload_n (k := 0) hx hb (by decide +kernel) rfl (lv_at hl 0 rfl) ?_
  refine lv_bipush (n := (12)) (v := (12)) hx hb (by decide +kernel) (by decide) ?_
  refine w_newI (n := 12) (N' := 12) hx hb (hts _ tw_1_62) hK hP hD hS hA (by decide) (by decide) (by decide) (Nat.le_of_ble_eq_true rfl) (Nat.le_of_ble_eq_true rfl) (by decide +kernel) (fun q2 H hP hD hS => ?_)
  have hP : va_P D vwCl [(h0, .inr (5, [.ref q1, .null, .null, .null, .int 0, .int 0, .int 0, .int 0, .int 0, .int 0, .null, .null])), (q1, .inl (cI, 240, .inl fun _ => 0)), (q2, .inl (cI, 12, .inl fun _ => 0))] H := hP
  have hD : va_D A [(h0, .inr (5, [.ref q1, .null, .null, .null, .int 0, .int 0, .int 0, .int 0, .int 0, .int 0, .null, .null])), (q1, .inl (cI, 240, .inl fun _ => 0)), (q2, .inl (cI, 12, .inl fun _ => 0))] := hD
  refine W.widen (k := 2) (n := 252) (Nat.le_of_ble_eq_true rfl) (Nat.le_of_ble_eq_true rfl) ?_
  refine va_putF (ref := (TX5 1).1) (ty := (tyX5 1)) (C := RX5) (T := TX5) (N := 12) hx hb hts inT5 tyX5 tyX5_ok nmX5 hown hK hP hD hS 0 rfl rfl 1 (by decide) (hts _ tw_1_91) (fun _ h => h) rfl hin rfl (tyX5_ok 1 (by decide)) rfl rfl (Nat.le_of_ble_eq_true rfl) (by decide +kernel) (fun H locs hP hD hS => ?_)
  have hP : va_P D vwCl [(h0, .inr (5, [.ref q1, .ref q2, .null, .null, .int 0, .int 0, .int 0, .int 0, .int 0, .int 0, .null, .null])), (q1, .inl (cI, 240, .inl fun _ => 0)), (q2, .inl (cI, 12, .inl fun _ => 0))] H := hP
  have hD : va_D A [(h0, .inr (5, [.ref q1, .ref q2, .null, .null, .int 0, .int 0, .int 0, .int 0, .int 0, .int 0, .null, .null])), (q1, .inl (cI, 240, .inl fun _ => 0)), (q2, .inl (cI, 12, .inl fun _ => 0))] := hD
  refine lv_aload_n (k := 0) hx hb (by decide +kernel) rfl (lv_at hl 0 rfl) ?_
  refine lv_bipush (n := (12)) (v := (12)) hx hb (by decide +kernel) (by decide) ?_
  refine w_newI (n := 12) (N' := 12) hx hb (hts _ tw_1_62) hK hP hD hS hA (by decide) (by decide) (by decide) (Nat.le_of_ble_eq_true rfl) (Nat.le_of_ble_eq_true rfl) (by decide +kernel) (fun q3 H hP hD hS => ?_)
  have hP : va_P D vwCl [(h0, .inr (5, [.ref q1, .ref q2, .null, .null, .int 0, .int 0, .int 0, .int 0, .int 0, .int 0, .null, .null])), (q1, .inl (cI, 240, .inl fun _ => 0)), (q2, .inl (cI, 12, .inl fun _ => 0)), (q3, .inl (cI, 12, .inl fun _ => 0))] H := hP
  have hD : va_D A [(h0, .inr (5, [.ref q1, .ref q2, .null, .null, .int 0, .int 0, .int 0, .int 0, .int 0, .int 0, .null, .null])), (q1, .inl (cI, 240, .inl fun _ => 0)), (q2, .inl (cI, 12, .inl fun _ => 0)), (q3, .inl (cI, 12, .inl fun _ => 0))] := hD
  refine W.widen (k := 3) (n := 264) (Nat.le_of_ble_eq_true rfl) (Nat.le_of_ble_eq_true rfl) ?_
  refine va_putF (ref := (TX5 2).1) (ty := (tyX5 2)) (C := RX5) (T := TX5) (N := 12) hx hb hts inT5 tyX5 tyX5_ok nmX5 hown hK hP hD hS 0 rfl rfl 2 (by decide) (hts _ tw_1_93) (fun _ h => h) rfl hin rfl (tyX5_ok 2 (by decide)) rfl rfl (Nat.le_of_ble_eq_true rfl) (by decide +kernel) (fun H locs hP hD hS => ?_)
  have hP : va_P D vwCl [(h0, .inr (5, [.ref q1, .ref q2, .ref q3, .null, .int 0, .int 0, .int 0, .int 0, .int 0, .int 0, .null, .null])), (q1, .inl (cI, 240, .inl fun _ => 0)), (q2, .inl (cI, 12, .inl fun _ => 0)), (q3, .inl (cI, 12, .inl fun _ => 0))] H := hP
  have hD : va_D A [(h0, .inr (5, [.ref q1, .ref q2, .ref q3, .null, .int 0, .int 0, .int 0, .int 0, .int 0, .int 0, .null, .null])), (q1, .inl (cI, 240, .inl fun _ => 0)), (q2, .inl (cI, 12, .inl fun _ => 0)), (q3, .inl (cI, 12, .inl fun _ => 0))] := hD
  refine lv_aload_n (k := 0) hx hb (by decide +kernel) rfl (lv_at hl 0 rfl) ?_
  refine lv_iconst (n := (0)) (v := (0)) hx hb (by decide +kernel) (by decide) ?_
  refine va_put (ref := (TX5 4).1) (ty := (tyX5 4)) (C := RX5) (T := TX5) (N := 12) hx hb hts inT5 tyX5 tyX5_ok nmX5 hown hK hP hD hS 0 rfl rfl 4 (by decide) (hts _ tw_1_96) (fun _ h => h) rfl (tyX5_ok 4 (by decide)) rfl rfl (Nat.le_of_ble_eq_true rfl) (by decide +kernel) (fun H locs hP hD hS => ?_)
  have hP : va_P D vwCl [(h0, .inr (5, [.ref q1, .ref q2, .ref q3, .null, .int 0, .int 0, .int 0, .int 0, .int 0, .int 0, .null, .null])), (q1, .inl (cI, 240, .inl fun _ => 0)), (q2, .inl (cI, 12, .inl fun _ => 0)), (q3, .inl (cI, 12, .inl fun _ => 0))] H := hP
  have hD : va_D A [(h0, .inr (5, [.ref q1, .ref q2, .ref q3, .null, .int 0, .int 0, .int 0, .int 0, .int 0, .int 0, .null, .null])), (q1, .inl (cI, 240, .inl fun _ => 0)), (q2, .inl (cI, 12, .inl fun _ => 0)), (q3, .inl (cI, 12, .inl fun _ => 0))] := hD
  refine lv_aload_n (k := 0) hx hb (by decide +kernel) rfl (lv_at hl 0 rfl) ?_
  refine lv_iconst (n := (-1)) (v := (-1)) hx hb (by decide +kernel) (by decide) ?_
  refine va_put (ref := (TX5 5).1) (ty := (tyX5 5)) (C := RX5) (T := TX5) (N := 12) hx hb hts inT5 tyX5 tyX5_ok nmX5 hown hK hP hD hS 0 rfl rfl 5 (by decide) (hts _ tw_1_97) (fun _ h => h) rfl (tyX5_ok 5 (by decide)) rfl rfl (Nat.le_of_ble_eq_true rfl) (by decide +kernel) (fun H locs hP hD hS => ?_)
  have hP : va_P D vwCl [(h0, .inr (5, [.ref q1, .ref q2, .ref q3, .null, .int 0, .int (-1), .int 0, .int 0, .int 0, .int 0, .null, .null])), (q1, .inl (cI, 240, .inl fun _ => 0)), (q2, .inl (cI, 12, .inl fun _ => 0)), (q3, .inl (cI, 12, .inl fun _ => 0))] H := hP
  have hD : va_D A [(h0, .inr (5, [.ref q1, .ref q2, .ref q3, .null, .int 0, .int (-1), .int 0, .int 0, .int 0, .int 0, .null, .null])), (q1, .inl (cI, 240, .inl fun _ => 0)), (q2, .inl (cI, 12, .inl fun _ => 0)), (q3, .inl (cI, 12, .inl fun _ => 0))] := hD
  refine lv_aload_n (k := 0) hx hb (by decide +kernel) rfl (lv_at hl 0 rfl) ?_
  refine lv_iconst (n := (0)) (v := (0)) hx hb (by decide +kernel) (by decide) ?_
  refine va_put (ref := (TX5 6).1) (ty := (tyX5 6)) (C := RX5) (T := TX5) (N := 12) hx hb hts inT5 tyX5 tyX5_ok nmX5 hown hK hP hD hS 0 rfl rfl 6 (by decide) (hts _ tw_1_98) (fun _ h => h) rfl (tyX5_ok 6 (by decide)) rfl rfl (Nat.le_of_ble_eq_true rfl) (by decide +kernel) (fun H locs hP hD hS => ?_)
  have hP : va_P D vwCl [(h0, .inr (5, [.ref q1, .ref q2, .ref q3, .null, .int 0, .int (-1), .int 0, .int 0, .int 0, .int 0, .null, .null])), (q1, .inl (cI, 240, .inl fun _ => 0)), (q2, .inl (cI, 12, .inl fun _ => 0)), (q3, .inl (cI, 12, .inl fun _ => 0))] H := hP
  have hD : va_D A [(h0, .inr (5, [.ref q1, .ref q2, .ref q3, .null, .int 0, .int (-1), .int 0, .int 0, .int 0, .int 0, .null, .null])), (q1, .inl (cI, 240, .inl fun _ => 0)), (q2, .inl (cI, 12, .inl fun _ => 0)), (q3, .inl (cI, 12, .inl fun _ => 0))] := hD
  refine lv_aload_n (k := 0) hx hb (by decide +kernel) rfl (lv_at hl 0 rfl) ?_
  refine lv_iconst (n := (0)) (v := (0)) hx hb (by decide +kernel) (by decide) ?_
  refine va_put (ref := (TX5 7).1) (ty := (tyX5 7)) (C := RX5) (T := TX5) (N := 12) hx hb hts inT5 tyX5 tyX5_ok nmX5 hown hK hP hD hS 0 rfl rfl 7 (by decide) (hts _ tw_1_99) (fun _ h => h) rfl (tyX5_ok 7 (by decide)) rfl rfl (Nat.le_of_ble_eq_true rfl) (by decide +kernel) (fun H locs hP hD hS => ?_)
  have hP : va_P D vwCl [(h0, .inr (5, [.ref q1, .ref q2, .ref q3, .null, .int 0, .int (-1), .int 0, .int 0, .int 0, .int 0, .null, .null])), (q1, .inl (cI, 240, .inl fun _ => 0)), (q2, .inl (cI, 12, .inl fun _ => 0)), (q3, .inl (cI, 12, .inl fun _ => 0))] H := hP
  have hD : va_D A [(h0, .inr (5, [.ref q1, .ref q2, .ref q3, .null, .int 0, .int (-1), .int 0, .int 0, .int 0, .int 0, .null, .null])), (q1, .inl (cI, 240, .inl fun _ => 0)), (q2, .inl (cI, 12, .inl fun _ => 0)), (q3, .inl (cI, 12, .inl fun _ => 0))] := hD
  refine lv_aload_n (k := 0) hx hb (by decide +kernel) rfl (lv_at hl 0 rfl) ?_
  refine lv_iconst (n := (0)) (v := (0)) hx hb (by decide +kernel) (by decide) ?_
  refine va_put (ref := (TX5 8).1) (ty := (tyX5 8)) (C := RX5) (T := TX5) (N := 12) hx hb hts inT5 tyX5 tyX5_ok nmX5 hown hK hP hD hS 0 rfl rfl 8 (by decide) (hts _ tw_1_100) (fun _ h => h) rfl (tyX5_ok 8 (by decide)) rfl rfl (Nat.le_of_ble_eq_true rfl) (by decide +kernel) (fun H locs hP hD hS => ?_)
  have hP : va_P D vwCl [(h0, .inr (5, [.ref q1, .ref q2, .ref q3, .null, .int 0, .int (-1), .int 0, .int 0, .int 0, .int 0, .null, .null])), (q1, .inl (cI, 240, .inl fun _ => 0)), (q2, .inl (cI, 12, .inl fun _ => 0)), (q3, .inl (cI, 12, .inl fun _ => 0))] H := hP
  have hD : va_D A [(h0, .inr (5, [.ref q1, .ref q2, .ref q3, .null, .int 0, .int (-1), .int 0, .int 0, .int 0, .int 0, .null, .null])), (q1, .inl (cI, 240, .inl fun _ => 0)), (q2, .inl (cI, 12, .inl fun _ => 0)), (q3, .inl (cI, 12, .inl fun _ => 0))] := hD
  refine lv_aload_n (k := 0) hx hb (by decide +kernel) rfl (lv_at hl 0 rfl) ?_
  refine lv_iconst (n := (0)) (v := (0)) hx hb (by decide +kernel) (by decide) ?_
  refine va_put (ref := (TX5 9).1) (ty := (tyX5 9)) (C := RX5) (T := TX5) (N := 12) hx hb hts inT5 tyX5 tyX5_ok nmX5 hown hK hP hD hS 0 rfl rfl 9 (by decide) (hts _ tw_1_101) (fun _ h => h) rfl (tyX5_ok 9 (by decide)) rfl rfl (Nat.le_of_ble_eq_true rfl) (by decide +kernel) (fun H locs hP hD hS => ?_)
  have hP : va_P D vwCl [(h0, .inr (5, [.ref q1, .ref q2, .ref q3, .null, .int 0, .int (-1), .int 0, .int 0, .int 0, .int 0, .null, .null])), (q1, .inl (cI, 240, .inl fun _ => 0)), (q2, .inl (cI, 12, .inl fun _ => 0)), (q3, .inl (cI, 12, .inl fun _ => 0))] H := hP
  have hD : va_D A [(h0, .inr (5, [.ref q1, .ref q2, .ref q3, .null, .int 0, .int (-1), .int 0, .int 0, .int 0, .int 0, .null, .null])), (q1, .inl (cI, 240, .inl fun _ => 0)), (q2, .inl (cI, 12, .inl fun _ => 0)), (q3, .inl (cI, 12, .inl fun _ => 0))] := hD
  refine lv_aload_n (k := 0) hx hb (by decide +kernel) rfl (lv_at hl 0 rfl) ?_
  refine lv_bipush (n := (120)) (v := (120)) hx hb (by decide +kernel) (by decide) ?_
  refine w_newI (n := 120) (N' := 120) hx hb (hts _ tw_1_62) hK hP hD hS hA (by decide) (by decide) (by decide) (Nat.le_of_ble_eq_true rfl) (Nat.le_of_ble_eq_true rfl) (by decide +kernel) (fun q4 H hP hD hS => ?_)
  have hP : va_P D vwCl [(h0, .inr (5, [.ref q1, .ref q2, .ref q3, .null, .int 0, .int (-1), .int 0, .int 0, .int 0, .int 0, .null, .null])), (q1, .inl (cI, 240, .inl fun _ => 0)), (q2, .inl (cI, 12, .inl fun _ => 0)), (q3, .inl (cI, 12, .inl fun _ => 0)), (q4, .inl (cI, 120, .inl fun _ => 0))] H := hP
  have hD : va_D A [(h0, .inr (5, [.ref q1, .ref q2, .ref q3, .null, .int 0, .int (-1), .int 0, .int 0, .int 0, .int 0, .null, .null])), (q1, .inl (cI, 240, .inl fun _ => 0)), (q2, .inl (cI, 12, .inl fun _ => 0)), (q3, .inl (cI, 12, .inl fun _ => 0)), (q4, .inl (cI, 120, .inl fun _ => 0))] := hD
  refine W.widen (k := 4) (n := 384) (Nat.le_of_ble_eq_true rfl) (Nat.le_of_ble_eq_true rfl) ?_
  refine va_putF (ref := (TX5 10).1) (ty := (tyX5 10)) (C := RX5) (T := TX5) (N := 12) hx hb hts inT5 tyX5 tyX5_ok nmX5 hown hK hP hD hS 0 rfl rfl 10 (by decide) (hts _ tw_1_102) (fun _ h => h) rfl hin rfl (tyX5_ok 10 (by decide)) rfl rfl (Nat.le_of_ble_eq_true rfl) (by decide +kernel) (fun H locs hP hD hS => ?_)
  have hP : va_P D vwCl [(h0, .inr (5, [.ref q1, .ref q2, .ref q3, .null, .int 0, .int (-1), .int 0, .int 0, .int 0, .int 0, .ref q4, .null])), (q1, .inl (cI, 240, .inl fun _ => 0)), (q2, .inl (cI, 12, .inl fun _ => 0)), (q3, .inl (cI, 12, .inl fun _ => 0)), (q4, .inl (cI, 120, .inl fun _ => 0))] H := hP
  have hD : va_D A [(h0, .inr (5, [.ref q1, .ref q2, .ref q3, .null, .int 0, .int (-1), .int 0, .int 0, .int 0, .int 0, .ref q4, .null])), (q1, .inl (cI, 240, .inl fun _ => 0)), (q2, .inl (cI, 12, .inl fun _ => 0)), (q3, .inl (cI, 12, .inl fun _ => 0)), (q4, .inl (cI, 120, .inl fun _ => 0))] := hD
  refine lv_aload_n (k := 0) hx hb (by decide +kernel) rfl (lv_at hl 0 rfl) ?_
  refine lv_bipush (n := (121)) (v := (121)) hx hb (by decide +kernel) (by decide) ?_
  refine w_newI (n := 121) (N' := 121) hx hb (hts _ tw_1_62) hK hP hD hS hA (by decide) (by decide) (by decide) (Nat.le_of_ble_eq_true rfl) (Nat.le_of_ble_eq_true rfl) (by decide +kernel) (fun q5 H hP hD hS => ?_)
  have hP : va_P D vwCl [(h0, .inr (5, [.ref q1, .ref q2, .ref q3, .null, .int 0, .int (-1), .int 0, .int 0, .int 0, .int 0, .ref q4, .null])), (q1, .inl (cI, 240, .inl fun _ => 0)), (q2, .inl (cI, 12, .inl fun _ => 0)), (q3, .inl (cI, 12, .inl fun _ => 0)), (q4, .inl (cI, 120, .inl fun _ => 0)), (q5, .inl (cI, 121, .inl fun _ => 0))] H := hP
  have hD : va_D A [(h0, .inr (5, [.ref q1, .ref q2, .ref q3, .null, .int 0, .int (-1), .int 0, .int 0, .int 0, .int 0, .ref q4, .null])), (q1, .inl (cI, 240, .inl fun _ => 0)), (q2, .inl (cI, 12, .inl fun _ => 0)), (q3, .inl (cI, 12, .inl fun _ => 0)), (q4, .inl (cI, 120, .inl fun _ => 0)), (q5, .inl (cI, 121, .inl fun _ => 0))] := hD
  refine W.widen (k := 5) (n := 505) (Nat.le_of_ble_eq_true rfl) (Nat.le_of_ble_eq_true rfl) ?_
  refine va_putF (ref := (TX5 11).1) (ty := (tyX5 11)) (C := RX5) (T := TX5) (N := 12) hx hb hts inT5 tyX5 tyX5_ok nmX5 hown hK hP hD hS 0 rfl rfl 11 (by decide) (hts _ tw_1_103) (fun _ h => h) rfl hin rfl (tyX5_ok 11 (by decide)) rfl rfl (Nat.le_of_ble_eq_true rfl) (by decide +kernel) (fun H locs hP hD hS => ?_)
  have hP : va_P D vwCl [(h0, .inr (5, [.ref q1, .ref q2, .ref q3, .null, .int 0, .int (-1), .int 0, .int 0, .int 0, .int 0, .ref q4, .ref q5])), (q1, .inl (cI, 240, .inl fun _ => 0)), (q2, .inl (cI, 12, .inl fun _ => 0)), (q3, .inl (cI, 12, .inl fun _ => 0)), (q4, .inl (cI, 120, .inl fun _ => 0)), (q5, .inl (cI, 121, .inl fun _ => 0))] H := hP
  have hD : va_D A [(h0, .inr (5, [.ref q1, .ref q2, .ref q3, .null, .int 0, .int (-1), .int 0, .int 0, .int 0, .int 0, .ref q4, .ref q5])), (q1, .inl (cI, 240, .inl fun _ => 0)), (q2, .inl (cI, 12, .inl fun _ => 0)), (q3, .inl (cI, 12, .inl fun _ => 0)), (q4, .inl (cI, 120, .inl fun _ => 0)), (q5, .inl (cI, 121, .inl fun _ => 0))] := hD
  refine lv_aload_n (k := 0) hx hb (by decide +kernel) rfl (lv_at hl 0 rfl) ?_
  refine lv_aload_n (k := 1) hx hb (by decide +kernel) rfl (lv_at hl 1 rfl) ?_
  refine va_putF (ref := (TX5 3).1) (ty := (tyX5 3)) (C := RX5) (T := TX5) (N := 12) hx hb hts inT5 tyX5 tyX5_ok nmX5 hown hK hP hD hS 0 rfl rfl 3 (by decide) (hts _ tw_1_95) (fun _ h => h) rfl hin rfl (tyX5_ok 3 (by decide)) rfl rfl (Nat.le_of_ble_eq_true rfl) (by decide +kernel) (fun H locs hP hD hS => ?_)
  have hP : va_P D vwCl [(h0, .inr (5, [.ref q1, .ref q2, .ref q3, .ref a1, .int 0, .int (-1), .int 0, .int 0, .int 0, .int 0, .ref q4, .ref q5])), (q1, .inl (cI, 240, .inl fun _ => 0)), (q2, .inl (cI, 12, .inl fun _ => 0)), (q3, .inl (cI, 12, .inl fun _ => 0)), (q4, .inl (cI, 120, .inl fun _ => 0)), (q5, .inl (cI, 121, .inl fun _ => 0))] H := hP
  have hD : va_D A [(h0, .inr (5, [.ref q1, .ref q2, .ref q3, .ref a1, .int 0, .int (-1), .int 0, .int 0, .int 0, .int 0, .ref q4, .ref q5])), (q1, .inl (cI, 240, .inl fun _ => 0)), (q2, .inl (cI, 12, .inl fun _ => 0)), (q3, .inl (cI, 12, .inl fun _ => 0)), (q4, .inl (cI, 120, .inl fun _ => 0)), (q5, .inl (cI, 121, .inl fun _ => 0))] := hD
  have hP9 := hP.sub (ws' := [(h0, .inr (5, [.ref q1, .ref q2, .ref q3, .ref a1, .int 0, .int (-1), .int 0, .int 0, .int 0, .int 0, .ref q4, .ref q5])), (q1, .inl (cI, 240, .inl fun _ => 0)), (q2, .inl (cI, 12, .inl fun _ => 0)), (q3, .inl (cI, 12, .inl fun _ => 0)), (q4, .inl (cI, 120, .inl fun _ => 0)), (q5, .inl (cI, 121, .inl fun _ => 0))]) [0, 1, 2, 3, 4, 5] rfl
  have hD9 := hD.sub (ws' := [(h0, .inr (5, [.ref q1, .ref q2, .ref q3, .ref a1, .int 0, .int (-1), .int 0, .int 0, .int 0, .int 0, .ref q4, .ref q5])), (q1, .inl (cI, 240, .inl fun _ => 0)), (q2, .inl (cI, 12, .inl fun _ => 0)), (q3, .inl (cI, 12, .inl fun _ => 0)), (q4, .inl (cI, 120, .inl fun _ => 0)), (q5, .inl (cI, 121, .inl fun _ => 0))]) [0, 1, 2, 3, 4, 5] (by decide) rfl
  exact W.vret hx hb hr (fun t ht hW => ⟨⟨_, rfl, ⟨q1, q2, q3, q4, q5, rfl⟩, by rw [ht]; exact hP9, hD9⟩, hS.F ht⟩) hS.2.2 (by decide +kernel)
