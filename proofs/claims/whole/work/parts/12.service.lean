abbrev po_X5_copyFrom (E : EN) (h0 : Nat) (h1 : Nat) (h2 : Nat) (h3 : Nat) (h4 : Nat) (o0 : Nat) (o1 : Nat) (o2 : Nat) (o3 : Nat) (o4 : Nat) (a_sizes_o : Nat → Int32) (a_lengths_o : Nat → Int32) (a_credits_o : Nat → Int32) (a_totals_o : Nat → Int32) (n_waiting_o : Int32) (n_pointer_o : Int32) (n_granted_o : Int32) (K : (Nat → Int32) → (Nat → Int32) → (Nat → Int32) → (Nat → Int32) → Int32 → Int32 → Int32 → Prop) : Option Value → va_W → Prop := fun v ws' => ∃ (a_sizes : Nat → Int32) (a_lengths : Nat → Int32) (a_credits : Nat → Int32) (a_totals : Nat → Int32) (n_waiting : Int32) (n_pointer : Int32) (n_granted : Int32), v = none ∧ ws' = [(h0, .inr (4, [.ref h1, .ref h2, .ref h3, .ref h4, .int n_waiting, .int n_pointer, .int n_granted])), (h1, .inl (E.2.1, 128, .inl a_sizes)), (h2, .inl (E.2.1, 16, .inl a_lengths)), (h3, .inl (E.2.1, 16, .inl a_credits)), (h4, .inl (E.2.1, 16, .inl a_totals)), (o0, .inr (4, [.ref o1, .ref o2, .ref o3, .ref o4, .int n_waiting_o, .int n_pointer_o, .int n_granted_o])), (o1, .inl (E.2.1, 128, .inl a_sizes_o)), (o2, .inl (E.2.1, 16, .inl a_lengths_o)), (o3, .inl (E.2.1, 16, .inl a_credits_o)), (o4, .inl (E.2.1, 16, .inl a_totals_o))] ∧ K a_sizes a_lengths a_credits a_totals n_waiting n_pointer n_granted
def wp_X5_copyFrom (a_sizes : Nat → Int32) (a_lengths : Nat → Int32) (a_credits : Nat → Int32) (a_totals : Nat → Int32) (n_waiting : Int32) (n_pointer : Int32) (n_granted : Int32) (a_sizes_o : Nat → Int32) (a_lengths_o : Nat → Int32) (a_credits_o : Nat → Int32) (a_totals_o : Nat → Int32) (n_waiting_o : Int32) (n_pointer_o : Int32) (n_granted_o : Int32) (K : (Nat → Int32) → (Nat → Int32) → (Nat → Int32) → (Nat → Int32) → Int32 → Int32 → Int32 → Prop) : Prop := (∀ f1 : Nat → Int32, f1 = va_cpy a_sizes_o a_sizes 0 0 128 → (∀ f2 : Nat → Int32, f2 = va_cpy a_lengths_o a_lengths 0 0 16 → (∀ f3 : Nat → Int32, f3 = va_cpy a_credits_o a_credits 0 0 16 → (∀ f4 : Nat → Int32, f4 = va_cpy a_totals_o a_totals 0 0 16 → ((narrow .boolean (.int n_granted_o) = .int n_granted_o ∧ fits .boolean (.int n_granted_o) = true) ∧ K f1 f2 f3 f4 n_waiting_o n_pointer_o n_granted_o)))))
set_option maxRecDepth 100000 in
set_option maxHeartbeats 4000000 in
theorem ct_X5_copyFrom (l : Launch) (E : EN) (h0 : Nat) (h1 : Nat) (h2 : Nat) (h3 : Nat) (h4 : Nat) (o0 : Nat) (o1 : Nat) (o2 : Nat) (o3 : Nat) (o4 : Nat) (a_sizes : Nat → Int32) (a_lengths : Nat → Int32) (a_credits : Nat → Int32) (a_totals : Nat → Int32) (n_waiting : Int32) (n_pointer : Int32) (n_granted : Int32) (a_sizes_o : Nat → Int32) (a_lengths_o : Nat → Int32) (a_credits_o : Nat → Int32) (a_totals_o : Nat → Int32) (n_waiting_o : Int32) (n_pointer_o : Int32) (n_granted_o : Int32) (K : (Nat → Int32) → (Nat → Int32) → (Nat → Int32) → (Nat → Int32) → Int32 → Int32 → Int32 → Prop) (hw : wp_X5_copyFrom a_sizes a_lengths a_credits a_totals n_waiting n_pointer n_granted a_sizes_o a_lengths_o a_credits_o a_totals_o n_waiting_o n_pointer_o n_granted_o K) : Con l yX5_copyFrom cX5_copyFrom 2 (none) { frames := 1, cells := 0, slots := 0, locals := 46 } E [.ref h0, .ref o0] [(h0, .inr (4, [.ref h1, .ref h2, .ref h3, .ref h4, .int n_waiting, .int n_pointer, .int n_granted])), (h1, .inl (E.2.1, 128, .inl a_sizes)), (h2, .inl (E.2.1, 16, .inl a_lengths)), (h3, .inl (E.2.1, 16, .inl a_credits)), (h4, .inl (E.2.1, 16, .inl a_totals)), (o0, .inr (4, [.ref o1, .ref o2, .ref o3, .ref o4, .int n_waiting_o, .int n_pointer_o, .int n_granted_o])), (o1, .inl (E.2.1, 128, .inl a_sizes_o)), (o2, .inl (E.2.1, 16, .inl a_lengths_o)), (o3, .inl (E.2.1, 16, .inl a_credits_o)), (o4, .inl (E.2.1, 16, .inl a_totals_o))] (po_X5_copyFrom E h0 h1 h2 h3 h4 o0 o1 o2 o3 o4 a_sizes_o a_lengths_o a_credits_o a_totals_o n_waiting_o n_pointer_o n_granted_o K) := by
  refine Con.mk (by decide +kernel) (Nat.le_of_ble_eq_true rfl) ?_
  intro p e s m below meth c A hC hr hin
  have hC : Cx p s m _ meth c E A cX5_copyFrom 2 "CookieServer$Service" := hC
  rw [wp_X5_copyFrom] at hw
  refine V_cast [(0, .ref h0), (1, .ref o0)] [] [(h0, .inr (4, [.ref h1, .ref h2, .ref h3, .ref h4, .int n_waiting, .int n_pointer, .int n_granted])), (h1, .inl (E.2.1, 128, .inl a_sizes)), (h2, .inl (E.2.1, 16, .inl a_lengths)), (h3, .inl (E.2.1, 16, .inl a_credits)), (h4, .inl (E.2.1, 16, .inl a_totals)), (o0, .inr (4, [.ref o1, .ref o2, .ref o3, .ref o4, .int n_waiting_o, .int n_pointer_o, .int n_granted_o])), (o1, .inl (E.2.1, 128, .inl a_sizes_o)), (o2, .inl (E.2.1, 16, .inl a_lengths_o)), (o3, .inl (E.2.1, 16, .inl a_credits_o)), (o4, .inl (E.2.1, 16, .inl a_totals_o))] [0, 1] [0, 1, 2, 3, 4, 5, 6, 7, 8, 9] rfl rfl rfl rfl ?_
  refine V_aload_n hC 1 rfl rfl dX5_copyFrom_0 ?_
  refine V_get hC inX5 rfl 0 (by decide) wd_126 5 rfl rfl dX5_copyFrom_1 ?_
  refine V_iconst hC 0 dX5_copyFrom_4 (by decide) ?_
  refine V_aload_n hC 0 rfl rfl dX5_copyFrom_5 ?_
  refine V_get hC inX5 rfl 0 (by decide) wd_126 0 rfl rfl dX5_copyFrom_6 ?_
  refine V_iconst hC 0 dX5_copyFrom_9 (by decide) ?_
  refine V_sipush hC 128 dX5_copyFrom_10 (by decide) ?_
  refine V_copy hC 128 wd_264 wd_244 wd_243 wd_41 6 1 rfl rfl (by decide) (by decide) (by decide) (by decide) (Nat.le_of_ble_eq_true rfl) (Nat.le_of_ble_eq_true rfl) dX5_copyFrom_13 (fun f1 ef1 => ?_)
  have hw := hw f1 ef1
  refine V_ws [(h0, .inr (4, [.ref h1, .ref h2, .ref h3, .ref h4, .int n_waiting, .int n_pointer, .int n_granted])), (h1, .inl (E.2.1, 128, .inl f1)), (h2, .inl (E.2.1, 16, .inl a_lengths)), (h3, .inl (E.2.1, 16, .inl a_credits)), (h4, .inl (E.2.1, 16, .inl a_totals)), (o0, .inr (4, [.ref o1, .ref o2, .ref o3, .ref o4, .int n_waiting_o, .int n_pointer_o, .int n_granted_o])), (o1, .inl (E.2.1, 128, .inl a_sizes_o)), (o2, .inl (E.2.1, 16, .inl a_lengths_o)), (o3, .inl (E.2.1, 16, .inl a_credits_o)), (o4, .inl (E.2.1, 16, .inl a_totals_o))] rfl ?_
  refine V_aload_n hC 1 rfl rfl dX5_copyFrom_16 ?_
  refine V_get hC inX5 rfl 1 (by decide) wd_127 5 rfl rfl dX5_copyFrom_17 ?_
  refine V_iconst hC 0 dX5_copyFrom_20 (by decide) ?_
  refine V_aload_n hC 0 rfl rfl dX5_copyFrom_21 ?_
  refine V_get hC inX5 rfl 1 (by decide) wd_127 0 rfl rfl dX5_copyFrom_22 ?_
  refine V_iconst hC 0 dX5_copyFrom_25 (by decide) ?_
  refine V_bipush hC 16 dX5_copyFrom_26 (by decide) ?_
  refine V_copy hC 16 wd_264 wd_244 wd_243 wd_41 7 2 rfl rfl (by decide) (by decide) (by decide) (by decide) (Nat.le_of_ble_eq_true rfl) (Nat.le_of_ble_eq_true rfl) dX5_copyFrom_28 (fun f2 ef2 => ?_)
  have hw := hw f2 ef2
  refine V_ws [(h0, .inr (4, [.ref h1, .ref h2, .ref h3, .ref h4, .int n_waiting, .int n_pointer, .int n_granted])), (h1, .inl (E.2.1, 128, .inl f1)), (h2, .inl (E.2.1, 16, .inl f2)), (h3, .inl (E.2.1, 16, .inl a_credits)), (h4, .inl (E.2.1, 16, .inl a_totals)), (o0, .inr (4, [.ref o1, .ref o2, .ref o3, .ref o4, .int n_waiting_o, .int n_pointer_o, .int n_granted_o])), (o1, .inl (E.2.1, 128, .inl a_sizes_o)), (o2, .inl (E.2.1, 16, .inl a_lengths_o)), (o3, .inl (E.2.1, 16, .inl a_credits_o)), (o4, .inl (E.2.1, 16, .inl a_totals_o))] rfl ?_
  refine V_aload_n hC 1 rfl rfl dX5_copyFrom_31 ?_
  refine V_get hC inX5 rfl 2 (by decide) wd_129 5 rfl rfl dX5_copyFrom_32 ?_
  refine V_iconst hC 0 dX5_copyFrom_35 (by decide) ?_
  refine V_aload_n hC 0 rfl rfl dX5_copyFrom_36 ?_
  refine V_get hC inX5 rfl 2 (by decide) wd_129 0 rfl rfl dX5_copyFrom_37 ?_
  refine V_iconst hC 0 dX5_copyFrom_40 (by decide) ?_
  refine V_bipush hC 16 dX5_copyFrom_41 (by decide) ?_
  refine V_copy hC 16 wd_264 wd_244 wd_243 wd_41 8 3 rfl rfl (by decide) (by decide) (by decide) (by decide) (Nat.le_of_ble_eq_true rfl) (Nat.le_of_ble_eq_true rfl) dX5_copyFrom_43 (fun f3 ef3 => ?_)
  have hw := hw f3 ef3
  refine V_ws [(h0, .inr (4, [.ref h1, .ref h2, .ref h3, .ref h4, .int n_waiting, .int n_pointer, .int n_granted])), (h1, .inl (E.2.1, 128, .inl f1)), (h2, .inl (E.2.1, 16, .inl f2)), (h3, .inl (E.2.1, 16, .inl f3)), (h4, .inl (E.2.1, 16, .inl a_totals)), (o0, .inr (4, [.ref o1, .ref o2, .ref o3, .ref o4, .int n_waiting_o, .int n_pointer_o, .int n_granted_o])), (o1, .inl (E.2.1, 128, .inl a_sizes_o)), (o2, .inl (E.2.1, 16, .inl a_lengths_o)), (o3, .inl (E.2.1, 16, .inl a_credits_o)), (o4, .inl (E.2.1, 16, .inl a_totals_o))] rfl ?_
  refine V_aload_n hC 1 rfl rfl dX5_copyFrom_46 ?_
  refine V_get hC inX5 rfl 3 (by decide) wd_131 5 rfl rfl dX5_copyFrom_47 ?_
  refine V_iconst hC 0 dX5_copyFrom_50 (by decide) ?_
  refine V_aload_n hC 0 rfl rfl dX5_copyFrom_51 ?_
  refine V_get hC inX5 rfl 3 (by decide) wd_131 0 rfl rfl dX5_copyFrom_52 ?_
  refine V_iconst hC 0 dX5_copyFrom_55 (by decide) ?_
  refine V_bipush hC 16 dX5_copyFrom_56 (by decide) ?_
  refine V_copy hC 16 wd_264 wd_244 wd_243 wd_41 9 4 rfl rfl (by decide) (by decide) (by decide) (by decide) (Nat.le_of_ble_eq_true rfl) (Nat.le_of_ble_eq_true rfl) dX5_copyFrom_58 (fun f4 ef4 => ?_)
  have hw := hw f4 ef4
  refine V_ws [(h0, .inr (4, [.ref h1, .ref h2, .ref h3, .ref h4, .int n_waiting, .int n_pointer, .int n_granted])), (h1, .inl (E.2.1, 128, .inl f1)), (h2, .inl (E.2.1, 16, .inl f2)), (h3, .inl (E.2.1, 16, .inl f3)), (h4, .inl (E.2.1, 16, .inl f4)), (o0, .inr (4, [.ref o1, .ref o2, .ref o3, .ref o4, .int n_waiting_o, .int n_pointer_o, .int n_granted_o])), (o1, .inl (E.2.1, 128, .inl a_sizes_o)), (o2, .inl (E.2.1, 16, .inl a_lengths_o)), (o3, .inl (E.2.1, 16, .inl a_credits_o)), (o4, .inl (E.2.1, 16, .inl a_totals_o))] rfl ?_
  refine V_aload_n hC 0 rfl rfl dX5_copyFrom_61 ?_
  refine V_aload_n hC 1 rfl rfl dX5_copyFrom_62 ?_
  refine V_get hC inX5 rfl 4 (by decide) wd_133 5 rfl rfl dX5_copyFrom_63 ?_
  refine V_put hC [(h0, .inr (4, [.ref h1, .ref h2, .ref h3, .ref h4, .int n_waiting_o, .int n_pointer, .int n_granted])), (h1, .inl (E.2.1, 128, .inl f1)), (h2, .inl (E.2.1, 16, .inl f2)), (h3, .inl (E.2.1, 16, .inl f3)), (h4, .inl (E.2.1, 16, .inl f4)), (o0, .inr (4, [.ref o1, .ref o2, .ref o3, .ref o4, .int n_waiting_o, .int n_pointer_o, .int n_granted_o])), (o1, .inl (E.2.1, 128, .inl a_sizes_o)), (o2, .inl (E.2.1, 16, .inl a_lengths_o)), (o3, .inl (E.2.1, 16, .inl a_credits_o)), (o4, .inl (E.2.1, 16, .inl a_totals_o))] inX5 tyX5_ok nmX5 rfl 4 (by decide) wd_133 rfl (ty := .int) (by decide +kernel) rfl rfl 0 rfl (Nat.le_of_ble_eq_true rfl) rfl dX5_copyFrom_66 ?_
  refine V_aload_n hC 0 rfl rfl dX5_copyFrom_69 ?_
  refine V_aload_n hC 1 rfl rfl dX5_copyFrom_70 ?_
  refine V_get hC inX5 rfl 5 (by decide) wd_134 5 rfl rfl dX5_copyFrom_71 ?_
  refine V_put hC [(h0, .inr (4, [.ref h1, .ref h2, .ref h3, .ref h4, .int n_waiting_o, .int n_pointer_o, .int n_granted])), (h1, .inl (E.2.1, 128, .inl f1)), (h2, .inl (E.2.1, 16, .inl f2)), (h3, .inl (E.2.1, 16, .inl f3)), (h4, .inl (E.2.1, 16, .inl f4)), (o0, .inr (4, [.ref o1, .ref o2, .ref o3, .ref o4, .int n_waiting_o, .int n_pointer_o, .int n_granted_o])), (o1, .inl (E.2.1, 128, .inl a_sizes_o)), (o2, .inl (E.2.1, 16, .inl a_lengths_o)), (o3, .inl (E.2.1, 16, .inl a_credits_o)), (o4, .inl (E.2.1, 16, .inl a_totals_o))] inX5 tyX5_ok nmX5 rfl 5 (by decide) wd_134 rfl (ty := .int) (by decide +kernel) rfl rfl 0 rfl (Nat.le_of_ble_eq_true rfl) rfl dX5_copyFrom_74 ?_
  refine V_aload_n hC 0 rfl rfl dX5_copyFrom_77 ?_
  refine V_aload_n hC 1 rfl rfl dX5_copyFrom_78 ?_
  refine V_get hC inX5 rfl 6 (by decide) wd_135 5 rfl rfl dX5_copyFrom_79 ?_
  refine V_put hC [(h0, .inr (4, [.ref h1, .ref h2, .ref h3, .ref h4, .int n_waiting_o, .int n_pointer_o, .int n_granted_o])), (h1, .inl (E.2.1, 128, .inl f1)), (h2, .inl (E.2.1, 16, .inl f2)), (h3, .inl (E.2.1, 16, .inl f3)), (h4, .inl (E.2.1, 16, .inl f4)), (o0, .inr (4, [.ref o1, .ref o2, .ref o3, .ref o4, .int n_waiting_o, .int n_pointer_o, .int n_granted_o])), (o1, .inl (E.2.1, 128, .inl a_sizes_o)), (o2, .inl (E.2.1, 16, .inl a_lengths_o)), (o3, .inl (E.2.1, 16, .inl a_credits_o)), (o4, .inl (E.2.1, 16, .inl a_totals_o))] inX5 tyX5_ok nmX5 rfl 6 (by decide) wd_135 rfl (ty := .boolean) (by decide +kernel) hw.1.1 hw.1.2 0 rfl (Nat.le_of_ble_eq_true rfl) rfl dX5_copyFrom_82 ?_
  have hw := hw.2
  exact V_vret hC hr ⟨f1, f2, f3, f4, n_waiting_o, n_pointer_o, n_granted_o, rfl, rfl, hw⟩ dX5_copyFrom_85
abbrev po_X5_enqueue (E : EN) (h0 : Nat) (h1 : Nat) (h2 : Nat) (h3 : Nat) (h4 : Nat) (a_credits : Nat → Int32) (a_totals : Nat → Int32) (n_pointer : Int32) (n_granted : Int32) (K : (Nat → Int32) → (Nat → Int32) → Int32 → Prop) : Option Value → va_W → Prop := fun v ws' => ∃ (a_sizes : Nat → Int32) (a_lengths : Nat → Int32) (n_waiting : Int32), v = none ∧ ws' = [(h0, .inr (4, [.ref h1, .ref h2, .ref h3, .ref h4, .int n_waiting, .int n_pointer, .int n_granted])), (h1, .inl (E.2.1, 128, .inl a_sizes)), (h2, .inl (E.2.1, 16, .inl a_lengths)), (h3, .inl (E.2.1, 16, .inl a_credits)), (h4, .inl (E.2.1, 16, .inl a_totals))] ∧ K a_sizes a_lengths n_waiting
def wp_X5_enqueue (a_sizes : Nat → Int32) (a_lengths : Nat → Int32) (a_credits : Nat → Int32) (a_totals : Nat → Int32) (n_waiting : Int32) (n_pointer : Int32) (n_granted : Int32) (p1 : Int32) (p2 : Int32) (K : (Nat → Int32) → (Nat → Int32) → Int32 → Prop) : Prop := (vp_in p1 16 ∧ (((a_lengths (Int32.toNatClampNeg p1)) < 8 → (vp_in p1 16 ∧ (vp_in ((p1 * 8) + (a_lengths (Int32.toNatClampNeg p1))) 128 ∧ (∀ f2 : Nat → Int32, f2 = upd a_sizes (Int32.toNatClampNeg ((p1 * 8) + (a_lengths (Int32.toNatClampNeg p1)))) p2 → (vp_in p1 16 ∧ (vp_in p1 16 ∧ (∀ f3 : Nat → Int32, f3 = upd a_lengths (Int32.toNatClampNeg p1) ((a_lengths (Int32.toNatClampNeg p1)) + 1) → K f2 f3 (n_waiting + 1)))))))) ∧ (¬ ((a_lengths (Int32.toNatClampNeg p1)) < 8) → K a_sizes a_lengths n_waiting)))
set_option maxRecDepth 100000 in
set_option maxHeartbeats 4000000 in
theorem ct_X5_enqueue (l : Launch) (E : EN) (h0 : Nat) (h1 : Nat) (h2 : Nat) (h3 : Nat) (h4 : Nat) (a_sizes : Nat → Int32) (a_lengths : Nat → Int32) (a_credits : Nat → Int32) (a_totals : Nat → Int32) (n_waiting : Int32) (n_pointer : Int32) (n_granted : Int32) (p1 : Int32) (p2 : Int32) (K : (Nat → Int32) → (Nat → Int32) → Int32 → Prop) (hw : wp_X5_enqueue a_sizes a_lengths a_credits a_totals n_waiting n_pointer n_granted p1 p2 K) : Con l yX5_enqueue cX5_enqueue 3 (none) { frames := 0, cells := 0, slots := 0, locals := 0 } E [.ref h0, .int p1, .int p2] [(h0, .inr (4, [.ref h1, .ref h2, .ref h3, .ref h4, .int n_waiting, .int n_pointer, .int n_granted])), (h1, .inl (E.2.1, 128, .inl a_sizes)), (h2, .inl (E.2.1, 16, .inl a_lengths)), (h3, .inl (E.2.1, 16, .inl a_credits)), (h4, .inl (E.2.1, 16, .inl a_totals))] (po_X5_enqueue E h0 h1 h2 h3 h4 a_credits a_totals n_pointer n_granted K) := by
  refine Con.mk (by decide +kernel) (Nat.le_of_ble_eq_true rfl) ?_
  intro p e s m below meth c A hC hr hin
  have hC : Cx p s m _ meth c E A cX5_enqueue 3 "CookieServer$Service" := hC
  rw [wp_X5_enqueue] at hw
  refine V_cast [(0, .ref h0), (1, .int p1), (2, .int p2)] [] [(h0, .inr (4, [.ref h1, .ref h2, .ref h3, .ref h4, .int n_waiting, .int n_pointer, .int n_granted])), (h1, .inl (E.2.1, 128, .inl a_sizes)), (h2, .inl (E.2.1, 16, .inl a_lengths)), (h3, .inl (E.2.1, 16, .inl a_credits)), (h4, .inl (E.2.1, 16, .inl a_totals))] [0, 1, 2] [0, 1, 2, 3, 4] rfl rfl rfl rfl ?_
  refine V_aload_n hC 0 rfl rfl dX5_enqueue_0 ?_
  refine V_get hC inX5 rfl 1 (by decide) wd_127 0 rfl rfl dX5_enqueue_1 ?_
  refine V_iload_n hC 1 rfl rfl dX5_enqueue_4 ?_
  refine V_iald hC _ rfl 2 rfl hw.1 dX5_enqueue_5 ?_
  have hw := hw.2
  refine V_bipush hC 8 dX5_enqueue_6 (by decide) ?_
  refine V_icmp_lt hC 12 (by decide) dX5_enqueue_8 (fun c1 => ?_) (fun c1 => ?_)
  · have hw := hw.1 c1
    refine V_aload_n hC 0 rfl rfl dX5_enqueue_12 ?_
    refine V_get hC inX5 rfl 0 (by decide) wd_126 0 rfl rfl dX5_enqueue_13 ?_
    refine V_iload_n hC 1 rfl rfl dX5_enqueue_16 ?_
    refine V_bipush hC 8 dX5_enqueue_17 (by decide) ?_
    refine V_imul hC dX5_enqueue_19 ?_
    refine V_aload_n hC 0 rfl rfl dX5_enqueue_20 ?_
    refine V_get hC inX5 rfl 1 (by decide) wd_127 0 rfl rfl dX5_enqueue_21 ?_
    refine V_iload_n hC 1 rfl rfl dX5_enqueue_24 ?_
    refine V_iald hC _ rfl 2 rfl hw.1 dX5_enqueue_25 ?_
    have hw := hw.2
    refine V_iadd hC dX5_enqueue_26 ?_
    refine V_iload_n hC 2 rfl rfl dX5_enqueue_27 ?_
    refine V_iast hC _ rfl 1 rfl hw.1 dX5_enqueue_28 (fun f2 ef2 => ?_)
    have hw := hw.2
    have hw := hw f2 ef2
    refine V_ws [(h0, .inr (4, [.ref h1, .ref h2, .ref h3, .ref h4, .int n_waiting, .int n_pointer, .int n_granted])), (h1, .inl (E.2.1, 128, .inl f2)), (h2, .inl (E.2.1, 16, .inl a_lengths)), (h3, .inl (E.2.1, 16, .inl a_credits)), (h4, .inl (E.2.1, 16, .inl a_totals))] rfl ?_
    refine V_aload_n hC 0 rfl rfl dX5_enqueue_29 ?_
    refine V_get hC inX5 rfl 1 (by decide) wd_127 0 rfl rfl dX5_enqueue_30 ?_
    refine V_iload_n hC 1 rfl rfl dX5_enqueue_33 ?_
    refine V_dup2 hC rfl rfl dX5_enqueue_34 ?_
    refine V_iald hC _ rfl 2 rfl hw.1 dX5_enqueue_35 ?_
    have hw := hw.2
    refine V_iconst hC 1 dX5_enqueue_36 (by decide) ?_
    refine V_iadd hC dX5_enqueue_37 ?_
    refine V_iast hC _ rfl 2 rfl hw.1 dX5_enqueue_38 (fun f3 ef3 => ?_)
    have hw := hw.2
    have hw := hw f3 ef3
    refine V_ws [(h0, .inr (4, [.ref h1, .ref h2, .ref h3, .ref h4, .int n_waiting, .int n_pointer, .int n_granted])), (h1, .inl (E.2.1, 128, .inl f2)), (h2, .inl (E.2.1, 16, .inl f3)), (h3, .inl (E.2.1, 16, .inl a_credits)), (h4, .inl (E.2.1, 16, .inl a_totals))] rfl ?_
    refine V_aload_n hC 0 rfl rfl dX5_enqueue_39 ?_
    refine V_dup hC rfl dX5_enqueue_40 ?_
    refine V_get hC inX5 rfl 4 (by decide) wd_133 0 rfl rfl dX5_enqueue_41 ?_
    refine V_iconst hC 1 dX5_enqueue_44 (by decide) ?_
    refine V_iadd hC dX5_enqueue_45 ?_
    refine V_put hC [(h0, .inr (4, [.ref h1, .ref h2, .ref h3, .ref h4, .int (n_waiting + 1), .int n_pointer, .int n_granted])), (h1, .inl (E.2.1, 128, .inl f2)), (h2, .inl (E.2.1, 16, .inl f3)), (h3, .inl (E.2.1, 16, .inl a_credits)), (h4, .inl (E.2.1, 16, .inl a_totals))] inX5 tyX5_ok nmX5 rfl 4 (by decide) wd_133 rfl (ty := .int) (by decide +kernel) rfl rfl 0 rfl (Nat.le_of_ble_eq_true rfl) rfl dX5_enqueue_46 ?_
    exact V_vret hC hr ⟨f2, f3, n_waiting + 1, rfl, rfl, hw⟩ dX5_enqueue_49
  · have hw := hw.2 c1
    exact V_vret hC hr ⟨a_sizes, a_lengths, n_waiting, rfl, rfl, hw⟩ dX5_enqueue_11
abbrev po_X5_dismiss (E : EN) (h0 : Nat) (h1 : Nat) (h2 : Nat) (h3 : Nat) (h4 : Nat) (a_sizes : Nat → Int32) (a_totals : Nat → Int32) (n_pointer : Int32) (n_granted : Int32) (K : (Nat → Int32) → (Nat → Int32) → Int32 → Prop) : Option Value → va_W → Prop := fun v ws' => ∃ (a_lengths : Nat → Int32) (a_credits : Nat → Int32) (n_waiting : Int32), v = none ∧ ws' = [(h0, .inr (4, [.ref h1, .ref h2, .ref h3, .ref h4, .int n_waiting, .int n_pointer, .int n_granted])), (h1, .inl (E.2.1, 128, .inl a_sizes)), (h2, .inl (E.2.1, 16, .inl a_lengths)), (h3, .inl (E.2.1, 16, .inl a_credits)), (h4, .inl (E.2.1, 16, .inl a_totals))] ∧ K a_lengths a_credits n_waiting
def wp_X5_dismiss (a_sizes : Nat → Int32) (a_lengths : Nat → Int32) (a_credits : Nat → Int32) (a_totals : Nat → Int32) (n_waiting : Int32) (n_pointer : Int32) (n_granted : Int32) (p1 : Int32) (K : (Nat → Int32) → (Nat → Int32) → Int32 → Prop) : Prop := (vp_in p1 16 ∧ (vp_in p1 16 ∧ (∀ f1 : Nat → Int32, f1 = upd a_lengths (Int32.toNatClampNeg p1) 0 → (vp_in p1 16 ∧ (∀ f2 : Nat → Int32, f2 = upd a_credits (Int32.toNatClampNeg p1) 0 → K f1 f2 (n_waiting - (a_lengths (Int32.toNatClampNeg p1))))))))
set_option maxRecDepth 100000 in
set_option maxHeartbeats 4000000 in
theorem ct_X5_dismiss (l : Launch) (E : EN) (h0 : Nat) (h1 : Nat) (h2 : Nat) (h3 : Nat) (h4 : Nat) (a_sizes : Nat → Int32) (a_lengths : Nat → Int32) (a_credits : Nat → Int32) (a_totals : Nat → Int32) (n_waiting : Int32) (n_pointer : Int32) (n_granted : Int32) (p1 : Int32) (K : (Nat → Int32) → (Nat → Int32) → Int32 → Prop) (hw : wp_X5_dismiss a_sizes a_lengths a_credits a_totals n_waiting n_pointer n_granted p1 K) : Con l yX5_dismiss cX5_dismiss 2 (none) { frames := 0, cells := 0, slots := 0, locals := 0 } E [.ref h0, .int p1] [(h0, .inr (4, [.ref h1, .ref h2, .ref h3, .ref h4, .int n_waiting, .int n_pointer, .int n_granted])), (h1, .inl (E.2.1, 128, .inl a_sizes)), (h2, .inl (E.2.1, 16, .inl a_lengths)), (h3, .inl (E.2.1, 16, .inl a_credits)), (h4, .inl (E.2.1, 16, .inl a_totals))] (po_X5_dismiss E h0 h1 h2 h3 h4 a_sizes a_totals n_pointer n_granted K) := by
  refine Con.mk (by decide +kernel) (Nat.le_of_ble_eq_true rfl) ?_
  intro p e s m below meth c A hC hr hin
  have hC : Cx p s m _ meth c E A cX5_dismiss 2 "CookieServer$Service" := hC
  rw [wp_X5_dismiss] at hw
  refine V_cast [(0, .ref h0), (1, .int p1)] [] [(h0, .inr (4, [.ref h1, .ref h2, .ref h3, .ref h4, .int n_waiting, .int n_pointer, .int n_granted])), (h1, .inl (E.2.1, 128, .inl a_sizes)), (h2, .inl (E.2.1, 16, .inl a_lengths)), (h3, .inl (E.2.1, 16, .inl a_credits)), (h4, .inl (E.2.1, 16, .inl a_totals))] [0, 1] [0, 1, 2, 3, 4] rfl rfl rfl rfl ?_
  refine V_aload_n hC 0 rfl rfl dX5_dismiss_0 ?_
  refine V_dup hC rfl dX5_dismiss_1 ?_
  refine V_get hC inX5 rfl 4 (by decide) wd_133 0 rfl rfl dX5_dismiss_2 ?_
  refine V_aload_n hC 0 rfl rfl dX5_dismiss_5 ?_
  refine V_get hC inX5 rfl 1 (by decide) wd_127 0 rfl rfl dX5_dismiss_6 ?_
  refine V_iload_n hC 1 rfl rfl dX5_dismiss_9 ?_
  refine V_iald hC _ rfl 2 rfl hw.1 dX5_dismiss_10 ?_
  have hw := hw.2
  refine V_isub hC dX5_dismiss_11 ?_
  refine V_put hC [(h0, .inr (4, [.ref h1, .ref h2, .ref h3, .ref h4, .int (n_waiting - (a_lengths (Int32.toNatClampNeg p1))), .int n_pointer, .int n_granted])), (h1, .inl (E.2.1, 128, .inl a_sizes)), (h2, .inl (E.2.1, 16, .inl a_lengths)), (h3, .inl (E.2.1, 16, .inl a_credits)), (h4, .inl (E.2.1, 16, .inl a_totals))] inX5 tyX5_ok nmX5 rfl 4 (by decide) wd_133 rfl (ty := .int) (by decide +kernel) rfl rfl 0 rfl (Nat.le_of_ble_eq_true rfl) rfl dX5_dismiss_12 ?_
  refine V_aload_n hC 0 rfl rfl dX5_dismiss_15 ?_
  refine V_get hC inX5 rfl 1 (by decide) wd_127 0 rfl rfl dX5_dismiss_16 ?_
  refine V_iload_n hC 1 rfl rfl dX5_dismiss_19 ?_
  refine V_iconst hC 0 dX5_dismiss_20 (by decide) ?_
  refine V_iast hC _ rfl 2 rfl hw.1 dX5_dismiss_21 (fun f1 ef1 => ?_)
  have hw := hw.2
  have hw := hw f1 ef1
  refine V_ws [(h0, .inr (4, [.ref h1, .ref h2, .ref h3, .ref h4, .int (n_waiting - (a_lengths (Int32.toNatClampNeg p1))), .int n_pointer, .int n_granted])), (h1, .inl (E.2.1, 128, .inl a_sizes)), (h2, .inl (E.2.1, 16, .inl f1)), (h3, .inl (E.2.1, 16, .inl a_credits)), (h4, .inl (E.2.1, 16, .inl a_totals))] rfl ?_
  refine V_aload_n hC 0 rfl rfl dX5_dismiss_22 ?_
  refine V_get hC inX5 rfl 2 (by decide) wd_129 0 rfl rfl dX5_dismiss_23 ?_
  refine V_iload_n hC 1 rfl rfl dX5_dismiss_26 ?_
  refine V_iconst hC 0 dX5_dismiss_27 (by decide) ?_
  refine V_iast hC _ rfl 3 rfl hw.1 dX5_dismiss_28 (fun f2 ef2 => ?_)
  have hw := hw.2
  have hw := hw f2 ef2
  refine V_ws [(h0, .inr (4, [.ref h1, .ref h2, .ref h3, .ref h4, .int (n_waiting - (a_lengths (Int32.toNatClampNeg p1))), .int n_pointer, .int n_granted])), (h1, .inl (E.2.1, 128, .inl a_sizes)), (h2, .inl (E.2.1, 16, .inl f1)), (h3, .inl (E.2.1, 16, .inl f2)), (h4, .inl (E.2.1, 16, .inl a_totals))] rfl ?_
  exact V_vret hC hr ⟨f1, f2, n_waiting - (a_lengths (Int32.toNatClampNeg p1)), rfl, rfl, hw⟩ dX5_dismiss_29
abbrev po_X5_grant (E : EN) (h0 : Nat) (h1 : Nat) (h2 : Nat) (h3 : Nat) (h4 : Nat) (a_sizes : Nat → Int32) (a_lengths : Nat → Int32) (a_totals : Nat → Int32) (n_waiting : Int32) (n_pointer : Int32) (K : (Nat → Int32) → Int32 → Prop) : Option Value → va_W → Prop := fun v ws' => ∃ (a_credits : Nat → Int32) (n_granted : Int32), v = none ∧ ws' = [(h0, .inr (4, [.ref h1, .ref h2, .ref h3, .ref h4, .int n_waiting, .int n_pointer, .int n_granted])), (h1, .inl (E.2.1, 128, .inl a_sizes)), (h2, .inl (E.2.1, 16, .inl a_lengths)), (h3, .inl (E.2.1, 16, .inl a_credits)), (h4, .inl (E.2.1, 16, .inl a_totals))] ∧ K a_credits n_granted
def wp_X5_grant (a_sizes : Nat → Int32) (a_lengths : Nat → Int32) (a_credits : Nat → Int32) (a_totals : Nat → Int32) (n_waiting : Int32) (n_pointer : Int32) (n_granted : Int32) (K : (Nat → Int32) → Int32 → Prop) : Prop := (vp_in n_pointer 16 ∧ (((a_lengths (Int32.toNatClampNeg n_pointer)) ≤ 0 → K a_credits n_granted) ∧ (¬ ((a_lengths (Int32.toNatClampNeg n_pointer)) ≤ 0) → ((¬ n_granted = 0 → K a_credits n_granted) ∧ (n_granted = 0 → (vp_in n_pointer 16 ∧ (vp_in n_pointer 16 ∧ (∀ f3 : Nat → Int32, f3 = upd a_credits (Int32.toNatClampNeg n_pointer) ((a_credits (Int32.toNatClampNeg n_pointer)) + 4) → K f3 1))))))))
set_option maxRecDepth 100000 in
set_option maxHeartbeats 4000000 in
theorem ct_X5_grant (l : Launch) (E : EN) (h0 : Nat) (h1 : Nat) (h2 : Nat) (h3 : Nat) (h4 : Nat) (a_sizes : Nat → Int32) (a_lengths : Nat → Int32) (a_credits : Nat → Int32) (a_totals : Nat → Int32) (n_waiting : Int32) (n_pointer : Int32) (n_granted : Int32) (K : (Nat → Int32) → Int32 → Prop) (hw : wp_X5_grant a_sizes a_lengths a_credits a_totals n_waiting n_pointer n_granted K) : Con l yX5_grant cX5_grant 1 (none) { frames := 0, cells := 0, slots := 0, locals := 0 } E [.ref h0] [(h0, .inr (4, [.ref h1, .ref h2, .ref h3, .ref h4, .int n_waiting, .int n_pointer, .int n_granted])), (h1, .inl (E.2.1, 128, .inl a_sizes)), (h2, .inl (E.2.1, 16, .inl a_lengths)), (h3, .inl (E.2.1, 16, .inl a_credits)), (h4, .inl (E.2.1, 16, .inl a_totals))] (po_X5_grant E h0 h1 h2 h3 h4 a_sizes a_lengths a_totals n_waiting n_pointer K) := by
  refine Con.mk (by decide +kernel) (Nat.le_of_ble_eq_true rfl) ?_
  intro p e s m below meth c A hC hr hin
  have hC : Cx p s m _ meth c E A cX5_grant 1 "CookieServer$Service" := hC
  rw [wp_X5_grant] at hw
  refine V_cast [(0, .ref h0)] [] [(h0, .inr (4, [.ref h1, .ref h2, .ref h3, .ref h4, .int n_waiting, .int n_pointer, .int n_granted])), (h1, .inl (E.2.1, 128, .inl a_sizes)), (h2, .inl (E.2.1, 16, .inl a_lengths)), (h3, .inl (E.2.1, 16, .inl a_credits)), (h4, .inl (E.2.1, 16, .inl a_totals))] [0] [0, 1, 2, 3, 4] rfl rfl rfl rfl ?_
  refine V_aload_n hC 0 rfl rfl dX5_grant_0 ?_
  refine V_get hC inX5 rfl 1 (by decide) wd_127 0 rfl rfl dX5_grant_1 ?_
  refine V_aload_n hC 0 rfl rfl dX5_grant_4 ?_
  refine V_get hC inX5 rfl 5 (by decide) wd_134 0 rfl rfl dX5_grant_5 ?_
  refine V_iald hC _ rfl 2 rfl hw.1 dX5_grant_8 ?_
  have hw := hw.2
  refine V_if_le hC 37 (by decide) dX5_grant_9 (fun c1 => ?_) (fun c1 => ?_)
  · have hw := hw.1 c1
    exact V_vret hC hr ⟨a_credits, n_granted, rfl, rfl, hw⟩ dX5_grant_37
  · have hw := hw.2 c1
    refine V_aload_n hC 0 rfl rfl dX5_grant_12 ?_
    refine V_get hC inX5 rfl 6 (by decide) wd_135 0 rfl rfl dX5_grant_13 ?_
    refine V_if_ne hC 37 (by decide) dX5_grant_16 (fun c2 => ?_) (fun c2 => ?_)
    · have hw := hw.1 c2
      exact V_vret hC hr ⟨a_credits, n_granted, rfl, rfl, hw⟩ dX5_grant_37
    · have hw := hw.2 c2
      refine V_aload_n hC 0 rfl rfl dX5_grant_19 ?_
      refine V_get hC inX5 rfl 2 (by decide) wd_129 0 rfl rfl dX5_grant_20 ?_
      refine V_aload_n hC 0 rfl rfl dX5_grant_23 ?_
      refine V_get hC inX5 rfl 5 (by decide) wd_134 0 rfl rfl dX5_grant_24 ?_
      refine V_dup2 hC rfl rfl dX5_grant_27 ?_
      refine V_iald hC _ rfl 3 rfl hw.1 dX5_grant_28 ?_
      have hw := hw.2
      refine V_iconst hC 4 dX5_grant_29 (by decide) ?_
      refine V_iadd hC dX5_grant_30 ?_
      refine V_iast hC _ rfl 3 rfl hw.1 dX5_grant_31 (fun f3 ef3 => ?_)
      have hw := hw.2
      have hw := hw f3 ef3
      refine V_ws [(h0, .inr (4, [.ref h1, .ref h2, .ref h3, .ref h4, .int n_waiting, .int n_pointer, .int n_granted])), (h1, .inl (E.2.1, 128, .inl a_sizes)), (h2, .inl (E.2.1, 16, .inl a_lengths)), (h3, .inl (E.2.1, 16, .inl f3)), (h4, .inl (E.2.1, 16, .inl a_totals))] rfl ?_
      refine V_aload_n hC 0 rfl rfl dX5_grant_32 ?_
      refine V_iconst hC 1 dX5_grant_33 (by decide) ?_
      refine V_put hC [(h0, .inr (4, [.ref h1, .ref h2, .ref h3, .ref h4, .int n_waiting, .int n_pointer, .int 1])), (h1, .inl (E.2.1, 128, .inl a_sizes)), (h2, .inl (E.2.1, 16, .inl a_lengths)), (h3, .inl (E.2.1, 16, .inl f3)), (h4, .inl (E.2.1, 16, .inl a_totals))] inX5 tyX5_ok nmX5 rfl 6 (by decide) wd_135 rfl (ty := .boolean) (by decide +kernel) rfl rfl 0 rfl (Nat.le_of_ble_eq_true rfl) rfl dX5_grant_34 ?_
      exact V_vret hC hr ⟨f3, 1, rfl, rfl, hw⟩ dX5_grant_37
abbrev po_X5_moveOn (E : EN) (h0 : Nat) (h1 : Nat) (h2 : Nat) (h3 : Nat) (h4 : Nat) (a_sizes : Nat → Int32) (a_lengths : Nat → Int32) (a_totals : Nat → Int32) (n_waiting : Int32) (K : (Nat → Int32) → Int32 → Int32 → Prop) : Option Value → va_W → Prop := fun v ws' => ∃ (a_credits : Nat → Int32) (n_pointer : Int32) (n_granted : Int32), v = none ∧ ws' = [(h0, .inr (4, [.ref h1, .ref h2, .ref h3, .ref h4, .int n_waiting, .int n_pointer, .int n_granted])), (h1, .inl (E.2.1, 128, .inl a_sizes)), (h2, .inl (E.2.1, 16, .inl a_lengths)), (h3, .inl (E.2.1, 16, .inl a_credits)), (h4, .inl (E.2.1, 16, .inl a_totals))] ∧ K a_credits n_pointer n_granted
def wp_X5_moveOn (a_sizes : Nat → Int32) (a_lengths : Nat → Int32) (a_credits : Nat → Int32) (a_totals : Nat → Int32) (n_waiting : Int32) (n_pointer : Int32) (n_granted : Int32) (K : (Nat → Int32) → Int32 → Int32 → Prop) : Prop := (vp_in n_pointer 16 ∧ ((¬ (a_lengths (Int32.toNatClampNeg n_pointer)) = 0 → K a_credits (jrem (n_pointer + 1) 16) 0) ∧ ((a_lengths (Int32.toNatClampNeg n_pointer)) = 0 → (vp_in n_pointer 16 ∧ (∀ f2 : Nat → Int32, f2 = upd a_credits (Int32.toNatClampNeg n_pointer) 0 → K f2 (jrem (n_pointer + 1) 16) 0)))))
set_option maxRecDepth 100000 in
set_option maxHeartbeats 4000000 in
theorem ct_X5_moveOn (l : Launch) (E : EN) (h0 : Nat) (h1 : Nat) (h2 : Nat) (h3 : Nat) (h4 : Nat) (a_sizes : Nat → Int32) (a_lengths : Nat → Int32) (a_credits : Nat → Int32) (a_totals : Nat → Int32) (n_waiting : Int32) (n_pointer : Int32) (n_granted : Int32) (K : (Nat → Int32) → Int32 → Int32 → Prop) (hw : wp_X5_moveOn a_sizes a_lengths a_credits a_totals n_waiting n_pointer n_granted K) : Con l yX5_moveOn cX5_moveOn 1 (none) { frames := 0, cells := 0, slots := 0, locals := 0 } E [.ref h0] [(h0, .inr (4, [.ref h1, .ref h2, .ref h3, .ref h4, .int n_waiting, .int n_pointer, .int n_granted])), (h1, .inl (E.2.1, 128, .inl a_sizes)), (h2, .inl (E.2.1, 16, .inl a_lengths)), (h3, .inl (E.2.1, 16, .inl a_credits)), (h4, .inl (E.2.1, 16, .inl a_totals))] (po_X5_moveOn E h0 h1 h2 h3 h4 a_sizes a_lengths a_totals n_waiting K) := by
  refine Con.mk (by decide +kernel) (Nat.le_of_ble_eq_true rfl) ?_
  intro p e s m below meth c A hC hr hin
  have hC : Cx p s m _ meth c E A cX5_moveOn 1 "CookieServer$Service" := hC
  rw [wp_X5_moveOn] at hw
  refine V_cast [(0, .ref h0)] [] [(h0, .inr (4, [.ref h1, .ref h2, .ref h3, .ref h4, .int n_waiting, .int n_pointer, .int n_granted])), (h1, .inl (E.2.1, 128, .inl a_sizes)), (h2, .inl (E.2.1, 16, .inl a_lengths)), (h3, .inl (E.2.1, 16, .inl a_credits)), (h4, .inl (E.2.1, 16, .inl a_totals))] [0] [0, 1, 2, 3, 4] rfl rfl rfl rfl ?_
  refine V_aload_n hC 0 rfl rfl dX5_moveOn_0 ?_
  refine V_get hC inX5 rfl 1 (by decide) wd_127 0 rfl rfl dX5_moveOn_1 ?_
  refine V_aload_n hC 0 rfl rfl dX5_moveOn_4 ?_
  refine V_get hC inX5 rfl 5 (by decide) wd_134 0 rfl rfl dX5_moveOn_5 ?_
  refine V_iald hC _ rfl 2 rfl hw.1 dX5_moveOn_8 ?_
  have hw := hw.2
  refine V_if_ne hC 22 (by decide) dX5_moveOn_9 (fun c1 => ?_) (fun c1 => ?_)
  · have hw := hw.1 c1
    refine V_aload_n hC 0 rfl rfl dX5_moveOn_22 ?_
    refine V_aload_n hC 0 rfl rfl dX5_moveOn_23 ?_
    refine V_get hC inX5 rfl 5 (by decide) wd_134 0 rfl rfl dX5_moveOn_24 ?_
    refine V_iconst hC 1 dX5_moveOn_27 (by decide) ?_
    refine V_iadd hC dX5_moveOn_28 ?_
    refine V_bipush hC 16 dX5_moveOn_29 (by decide) ?_
    refine V_irem hC (by decide) dX5_moveOn_31 ?_
    refine V_put hC [(h0, .inr (4, [.ref h1, .ref h2, .ref h3, .ref h4, .int n_waiting, .int (jrem (n_pointer + 1) 16), .int n_granted])), (h1, .inl (E.2.1, 128, .inl a_sizes)), (h2, .inl (E.2.1, 16, .inl a_lengths)), (h3, .inl (E.2.1, 16, .inl a_credits)), (h4, .inl (E.2.1, 16, .inl a_totals))] inX5 tyX5_ok nmX5 rfl 5 (by decide) wd_134 rfl (ty := .int) (by decide +kernel) rfl rfl 0 rfl (Nat.le_of_ble_eq_true rfl) rfl dX5_moveOn_32 ?_
    refine V_aload_n hC 0 rfl rfl dX5_moveOn_35 ?_
    refine V_iconst hC 0 dX5_moveOn_36 (by decide) ?_
    refine V_put hC [(h0, .inr (4, [.ref h1, .ref h2, .ref h3, .ref h4, .int n_waiting, .int (jrem (n_pointer + 1) 16), .int 0])), (h1, .inl (E.2.1, 128, .inl a_sizes)), (h2, .inl (E.2.1, 16, .inl a_lengths)), (h3, .inl (E.2.1, 16, .inl a_credits)), (h4, .inl (E.2.1, 16, .inl a_totals))] inX5 tyX5_ok nmX5 rfl 6 (by decide) wd_135 rfl (ty := .boolean) (by decide +kernel) rfl rfl 0 rfl (Nat.le_of_ble_eq_true rfl) rfl dX5_moveOn_37 ?_
    exact V_vret hC hr ⟨a_credits, jrem (n_pointer + 1) 16, 0, rfl, rfl, hw⟩ dX5_moveOn_40
  · have hw := hw.2 c1
    refine V_aload_n hC 0 rfl rfl dX5_moveOn_12 ?_
    refine V_get hC inX5 rfl 2 (by decide) wd_129 0 rfl rfl dX5_moveOn_13 ?_
    refine V_aload_n hC 0 rfl rfl dX5_moveOn_16 ?_
    refine V_get hC inX5 rfl 5 (by decide) wd_134 0 rfl rfl dX5_moveOn_17 ?_
    refine V_iconst hC 0 dX5_moveOn_20 (by decide) ?_
    refine V_iast hC _ rfl 3 rfl hw.1 dX5_moveOn_21 (fun f2 ef2 => ?_)
    have hw := hw.2
    have hw := hw f2 ef2
    refine V_ws [(h0, .inr (4, [.ref h1, .ref h2, .ref h3, .ref h4, .int n_waiting, .int n_pointer, .int n_granted])), (h1, .inl (E.2.1, 128, .inl a_sizes)), (h2, .inl (E.2.1, 16, .inl a_lengths)), (h3, .inl (E.2.1, 16, .inl f2)), (h4, .inl (E.2.1, 16, .inl a_totals))] rfl ?_
    refine V_aload_n hC 0 rfl rfl dX5_moveOn_22 ?_
    refine V_aload_n hC 0 rfl rfl dX5_moveOn_23 ?_
    refine V_get hC inX5 rfl 5 (by decide) wd_134 0 rfl rfl dX5_moveOn_24 ?_
    refine V_iconst hC 1 dX5_moveOn_27 (by decide) ?_
    refine V_iadd hC dX5_moveOn_28 ?_
    refine V_bipush hC 16 dX5_moveOn_29 (by decide) ?_
    refine V_irem hC (by decide) dX5_moveOn_31 ?_
    refine V_put hC [(h0, .inr (4, [.ref h1, .ref h2, .ref h3, .ref h4, .int n_waiting, .int (jrem (n_pointer + 1) 16), .int n_granted])), (h1, .inl (E.2.1, 128, .inl a_sizes)), (h2, .inl (E.2.1, 16, .inl a_lengths)), (h3, .inl (E.2.1, 16, .inl f2)), (h4, .inl (E.2.1, 16, .inl a_totals))] inX5 tyX5_ok nmX5 rfl 5 (by decide) wd_134 rfl (ty := .int) (by decide +kernel) rfl rfl 0 rfl (Nat.le_of_ble_eq_true rfl) rfl dX5_moveOn_32 ?_
    refine V_aload_n hC 0 rfl rfl dX5_moveOn_35 ?_
    refine V_iconst hC 0 dX5_moveOn_36 (by decide) ?_
    refine V_put hC [(h0, .inr (4, [.ref h1, .ref h2, .ref h3, .ref h4, .int n_waiting, .int (jrem (n_pointer + 1) 16), .int 0])), (h1, .inl (E.2.1, 128, .inl a_sizes)), (h2, .inl (E.2.1, 16, .inl a_lengths)), (h3, .inl (E.2.1, 16, .inl f2)), (h4, .inl (E.2.1, 16, .inl a_totals))] inX5 tyX5_ok nmX5 rfl 6 (by decide) wd_135 rfl (ty := .boolean) (by decide +kernel) rfl rfl 0 rfl (Nat.le_of_ble_eq_true rfl) rfl dX5_moveOn_37 ?_
    exact V_vret hC hr ⟨f2, jrem (n_pointer + 1) 16, 0, rfl, rfl, hw⟩ dX5_moveOn_40
abbrev po_X5_isFirstCovered (E : EN) (h0 : Nat) (h1 : Nat) (h2 : Nat) (h3 : Nat) (h4 : Nat) (a_sizes : Nat → Int32) (a_lengths : Nat → Int32) (a_credits : Nat → Int32) (a_totals : Nat → Int32) (n_waiting : Int32) (n_pointer : Int32) (n_granted : Int32) (K : Int32 → Prop) : Option Value → va_W → Prop := fun v ws' => ∃ (r0 : Int32), v = some (.int r0) ∧ ws' = [(h0, .inr (4, [.ref h1, .ref h2, .ref h3, .ref h4, .int n_waiting, .int n_pointer, .int n_granted])), (h1, .inl (E.2.1, 128, .inl a_sizes)), (h2, .inl (E.2.1, 16, .inl a_lengths)), (h3, .inl (E.2.1, 16, .inl a_credits)), (h4, .inl (E.2.1, 16, .inl a_totals))] ∧ K r0
def wp_X5_isFirstCovered (a_sizes : Nat → Int32) (a_lengths : Nat → Int32) (a_credits : Nat → Int32) (a_totals : Nat → Int32) (n_waiting : Int32) (n_pointer : Int32) (n_granted : Int32) (K : Int32 → Prop) : Prop := (vp_in n_pointer 16 ∧ (((a_lengths (Int32.toNatClampNeg n_pointer)) ≤ 0 → K 0) ∧ (¬ ((a_lengths (Int32.toNatClampNeg n_pointer)) ≤ 0) → (vp_in (n_pointer * 8) 128 ∧ (vp_in n_pointer 16 ∧ (((a_credits (Int32.toNatClampNeg n_pointer)) < (a_sizes (Int32.toNatClampNeg (n_pointer * 8))) → K 0) ∧ (¬ ((a_credits (Int32.toNatClampNeg n_pointer)) < (a_sizes (Int32.toNatClampNeg (n_pointer * 8)))) → K 1)))))))
set_option maxRecDepth 100000 in
set_option maxHeartbeats 4000000 in
theorem ct_X5_isFirstCovered (l : Launch) (E : EN) (h0 : Nat) (h1 : Nat) (h2 : Nat) (h3 : Nat) (h4 : Nat) (a_sizes : Nat → Int32) (a_lengths : Nat → Int32) (a_credits : Nat → Int32) (a_totals : Nat → Int32) (n_waiting : Int32) (n_pointer : Int32) (n_granted : Int32) (K : Int32 → Prop) (hw : wp_X5_isFirstCovered a_sizes a_lengths a_credits a_totals n_waiting n_pointer n_granted K) : Con l yX5_isFirstCovered cX5_isFirstCovered 1 (some .boolean) { frames := 0, cells := 0, slots := 0, locals := 0 } E [.ref h0] [(h0, .inr (4, [.ref h1, .ref h2, .ref h3, .ref h4, .int n_waiting, .int n_pointer, .int n_granted])), (h1, .inl (E.2.1, 128, .inl a_sizes)), (h2, .inl (E.2.1, 16, .inl a_lengths)), (h3, .inl (E.2.1, 16, .inl a_credits)), (h4, .inl (E.2.1, 16, .inl a_totals))] (po_X5_isFirstCovered E h0 h1 h2 h3 h4 a_sizes a_lengths a_credits a_totals n_waiting n_pointer n_granted K) := by
  refine Con.mk (by decide +kernel) (Nat.le_of_ble_eq_true rfl) ?_
  intro p e s m below meth c A hC hr hin
  have hC : Cx p s m _ meth c E A cX5_isFirstCovered 1 "CookieServer$Service" := hC
  rw [wp_X5_isFirstCovered] at hw
  refine V_cast [(0, .ref h0)] [] [(h0, .inr (4, [.ref h1, .ref h2, .ref h3, .ref h4, .int n_waiting, .int n_pointer, .int n_granted])), (h1, .inl (E.2.1, 128, .inl a_sizes)), (h2, .inl (E.2.1, 16, .inl a_lengths)), (h3, .inl (E.2.1, 16, .inl a_credits)), (h4, .inl (E.2.1, 16, .inl a_totals))] [0] [0, 1, 2, 3, 4] rfl rfl rfl rfl ?_
  refine V_aload_n hC 0 rfl rfl dX5_isFirstCovered_0 ?_
  refine V_get hC inX5 rfl 1 (by decide) wd_127 0 rfl rfl dX5_isFirstCovered_1 ?_
  refine V_aload_n hC 0 rfl rfl dX5_isFirstCovered_4 ?_
  refine V_get hC inX5 rfl 5 (by decide) wd_134 0 rfl rfl dX5_isFirstCovered_5 ?_
  refine V_iald hC _ rfl 2 rfl hw.1 dX5_isFirstCovered_8 ?_
  have hw := hw.2
  refine V_if_le hC 40 (by decide) dX5_isFirstCovered_9 (fun c1 => ?_) (fun c1 => ?_)
  · have hw := hw.1 c1
    refine V_iconst hC 0 dX5_isFirstCovered_40 (by decide) ?_
    exact V_zret hC hr rfl ⟨0, rfl, rfl, hw⟩ dX5_isFirstCovered_41
  · have hw := hw.2 c1
    refine V_aload_n hC 0 rfl rfl dX5_isFirstCovered_12 ?_
    refine V_get hC inX5 rfl 0 (by decide) wd_126 0 rfl rfl dX5_isFirstCovered_13 ?_
    refine V_aload_n hC 0 rfl rfl dX5_isFirstCovered_16 ?_
    refine V_get hC inX5 rfl 5 (by decide) wd_134 0 rfl rfl dX5_isFirstCovered_17 ?_
    refine V_bipush hC 8 dX5_isFirstCovered_20 (by decide) ?_
    refine V_imul hC dX5_isFirstCovered_22 ?_
    refine V_iald hC _ rfl 1 rfl hw.1 dX5_isFirstCovered_23 ?_
    have hw := hw.2
    refine V_aload_n hC 0 rfl rfl dX5_isFirstCovered_24 ?_
    refine V_get hC inX5 rfl 2 (by decide) wd_129 0 rfl rfl dX5_isFirstCovered_25 ?_
    refine V_aload_n hC 0 rfl rfl dX5_isFirstCovered_28 ?_
    refine V_get hC inX5 rfl 5 (by decide) wd_134 0 rfl rfl dX5_isFirstCovered_29 ?_
    refine V_iald hC _ rfl 3 rfl hw.1 dX5_isFirstCovered_32 ?_
    have hw := hw.2
    refine V_icmp_gt hC 40 (by decide) dX5_isFirstCovered_33 (fun c2 => ?_) (fun c2 => ?_)
    · have hw := hw.1 c2
      refine V_iconst hC 0 dX5_isFirstCovered_40 (by decide) ?_
      exact V_zret hC hr rfl ⟨0, rfl, rfl, hw⟩ dX5_isFirstCovered_41
    · have hw := hw.2 c2
      refine V_iconst hC 1 dX5_isFirstCovered_36 (by decide) ?_
      refine V_goto hC 41 (by decide) dX5_isFirstCovered_37 ?_
      exact V_zret hC hr rfl ⟨1, rfl, rfl, hw⟩ dX5_isFirstCovered_41
abbrev po_X5_removeFirst (E : EN) (h0 : Nat) (h1 : Nat) (h2 : Nat) (h3 : Nat) (h4 : Nat) (n_pointer : Int32) (n_granted : Int32) (K : (Nat → Int32) → (Nat → Int32) → (Nat → Int32) → (Nat → Int32) → Int32 → Prop) : Option Value → va_W → Prop := fun v ws' => ∃ (a_sizes : Nat → Int32) (a_lengths : Nat → Int32) (a_credits : Nat → Int32) (a_totals : Nat → Int32) (n_waiting : Int32), v = none ∧ ws' = [(h0, .inr (4, [.ref h1, .ref h2, .ref h3, .ref h4, .int n_waiting, .int n_pointer, .int n_granted])), (h1, .inl (E.2.1, 128, .inl a_sizes)), (h2, .inl (E.2.1, 16, .inl a_lengths)), (h3, .inl (E.2.1, 16, .inl a_credits)), (h4, .inl (E.2.1, 16, .inl a_totals))] ∧ K a_sizes a_lengths a_credits a_totals n_waiting
def wpl_X5_removeFirst_23 (n_pointer : Int32) (n_granted : Int32) (K : (Nat → Int32) → (Nat → Int32) → (Nat → Int32) → (Nat → Int32) → Int32 → Prop) : Nat → Int32 → Int32 → Int32 → (Nat → Int32) → (Nat → Int32) → (Nat → Int32) → (Nat → Int32) → Int32 → Prop
  | 0, _, _, _, _, _, _, _, _ => False
  | n9 + 1, x1, x2, x3, a_sizes, a_lengths, a_credits, a_totals, n_waiting => (vp_in n_pointer 16 ∧ (((a_lengths (Int32.toNatClampNeg n_pointer)) ≤ x3 → (vp_in n_pointer 16 ∧ (vp_in n_pointer 16 ∧ (∀ f3 : Nat → Int32, f3 = upd a_credits (Int32.toNatClampNeg n_pointer) ((a_credits (Int32.toNatClampNeg n_pointer)) - x1) → (vp_in n_pointer 16 ∧ (vp_in n_pointer 16 ∧ (∀ f4 : Nat → Int32, f4 = upd a_totals (Int32.toNatClampNeg n_pointer) ((a_totals (Int32.toNatClampNeg n_pointer)) + x1) → K a_sizes a_lengths f3 f4 (n_waiting - 1)))))))) ∧ (¬ ((a_lengths (Int32.toNatClampNeg n_pointer)) ≤ x3) → (vp_in ((x2 + x3) + 1) 128 ∧ (vp_in (x2 + x3) 128 ∧ (∀ f5 : Nat → Int32, f5 = upd a_sizes (Int32.toNatClampNeg (x2 + x3)) (a_sizes (Int32.toNatClampNeg ((x2 + x3) + 1))) → wpl_X5_removeFirst_23 n_pointer n_granted K n9 x1 x2 (x3 + 1) f5 a_lengths a_credits a_totals n_waiting))))))
set_option maxRecDepth 100000 in
set_option maxHeartbeats 4000000 in
theorem bl_X5_removeFirst_23 {p : Program} {l : Launch} {e : Env} {s : State} {m : MethodId} {args : Array Value} {below : List Frame} {meth : Method} {c : Code} {E : EN} {A : Nat → Prop} (hC : Cx p s m args meth c E A cX5_removeFirst 4 "CookieServer$Service") (hr : meth.sig.returnType = none) (h0 : Nat) (h1 : Nat) (h2 : Nat) (h3 : Nat) (h4 : Nat) (n_pointer : Int32) (n_granted : Int32) (K : (Nat → Int32) → (Nat → Int32) → (Nat → Int32) → (Nat → Int32) → Int32 → Prop) : ∀ (n8 : Nat) (x1 : Int32) (x2 : Int32) (x3 : Int32) (a_sizes : Nat → Int32) (a_lengths : Nat → Int32) (a_credits : Nat → Int32) (a_totals : Nat → Int32) (n_waiting : Int32), wpl_X5_removeFirst_23 n_pointer n_granted K n8 x1 x2 x3 a_sizes a_lengths a_credits a_totals n_waiting → V p l e { frames := 0, cells := 0, slots := 0, locals := 0 } s m args below meth c E A 4 0 0 (MQ below (QP E (po_X5_removeFirst E h0 h1 h2 h3 h4 n_pointer n_granted K) A) args s 0 0 A) 23 [(0, .ref h0), (1, .int x1), (2, .int x2), (3, .int x3)] [] [(h0, .inr (4, [.ref h1, .ref h2, .ref h3, .ref h4, .int n_waiting, .int n_pointer, .int n_granted])), (h1, .inl (E.2.1, 128, .inl a_sizes)), (h2, .inl (E.2.1, 16, .inl a_lengths)), (h3, .inl (E.2.1, 16, .inl a_credits)), (h4, .inl (E.2.1, 16, .inl a_totals))] := by
  intro n8
  induction n8 with
  | zero => intro x1 x2 x3 a_sizes a_lengths a_credits a_totals n_waiting hw; rw [wpl_X5_removeFirst_23] at hw; exact hw.elim
  | succ n9 ih =>
    intro x1 x2 x3 a_sizes a_lengths a_credits a_totals n_waiting hw
    rw [wpl_X5_removeFirst_23] at hw
    refine V_iload_n hC 3 rfl rfl dX5_removeFirst_23 ?_
    refine V_aload_n hC 0 rfl rfl dX5_removeFirst_24 ?_
    refine V_get hC inX5 rfl 1 (by decide) wd_127 0 rfl rfl dX5_removeFirst_25 ?_
    refine V_aload_n hC 0 rfl rfl dX5_removeFirst_28 ?_
    refine V_get hC inX5 rfl 5 (by decide) wd_134 0 rfl rfl dX5_removeFirst_29 ?_
    refine V_iald hC _ rfl 2 rfl hw.1 dX5_removeFirst_32 ?_
    have hw := hw.2
    refine V_icmp_ge hC 60 (by decide) dX5_removeFirst_33 (fun c2 => ?_) (fun c2 => ?_)
    · have hw := hw.1 c2
      refine V_aload_n hC 0 rfl rfl dX5_removeFirst_60 ?_
      refine V_dup hC rfl dX5_removeFirst_61 ?_
      refine V_get hC inX5 rfl 4 (by decide) wd_133 0 rfl rfl dX5_removeFirst_62 ?_
      refine V_iconst hC 1 dX5_removeFirst_65 (by decide) ?_
      refine V_isub hC dX5_removeFirst_66 ?_
      refine V_put hC [(h0, .inr (4, [.ref h1, .ref h2, .ref h3, .ref h4, .int (n_waiting - 1), .int n_pointer, .int n_granted])), (h1, .inl (E.2.1, 128, .inl a_sizes)), (h2, .inl (E.2.1, 16, .inl a_lengths)), (h3, .inl (E.2.1, 16, .inl a_credits)), (h4, .inl (E.2.1, 16, .inl a_totals))] inX5 tyX5_ok nmX5 rfl 4 (by decide) wd_133 rfl (ty := .int) (by decide +kernel) rfl rfl 0 rfl (Nat.le_of_ble_eq_true rfl) rfl dX5_removeFirst_67 ?_
      refine V_aload_n hC 0 rfl rfl dX5_removeFirst_70 ?_
      refine V_get hC inX5 rfl 2 (by decide) wd_129 0 rfl rfl dX5_removeFirst_71 ?_
      refine V_aload_n hC 0 rfl rfl dX5_removeFirst_74 ?_
      refine V_get hC inX5 rfl 5 (by decide) wd_134 0 rfl rfl dX5_removeFirst_75 ?_
      refine V_dup2 hC rfl rfl dX5_removeFirst_78 ?_
      refine V_iald hC _ rfl 3 rfl hw.1 dX5_removeFirst_79 ?_
      have hw := hw.2
      refine V_iload_n hC 1 rfl rfl dX5_removeFirst_80 ?_
      refine V_isub hC dX5_removeFirst_81 ?_
      refine V_iast hC _ rfl 3 rfl hw.1 dX5_removeFirst_82 (fun f3 ef3 => ?_)
      have hw := hw.2
      have hw := hw f3 ef3
      refine V_ws [(h0, .inr (4, [.ref h1, .ref h2, .ref h3, .ref h4, .int (n_waiting - 1), .int n_pointer, .int n_granted])), (h1, .inl (E.2.1, 128, .inl a_sizes)), (h2, .inl (E.2.1, 16, .inl a_lengths)), (h3, .inl (E.2.1, 16, .inl f3)), (h4, .inl (E.2.1, 16, .inl a_totals))] rfl ?_
      refine V_aload_n hC 0 rfl rfl dX5_removeFirst_83 ?_
      refine V_get hC inX5 rfl 3 (by decide) wd_131 0 rfl rfl dX5_removeFirst_84 ?_
      refine V_aload_n hC 0 rfl rfl dX5_removeFirst_87 ?_
      refine V_get hC inX5 rfl 5 (by decide) wd_134 0 rfl rfl dX5_removeFirst_88 ?_
      refine V_dup2 hC rfl rfl dX5_removeFirst_91 ?_
      refine V_iald hC _ rfl 4 rfl hw.1 dX5_removeFirst_92 ?_
      have hw := hw.2
      refine V_iload_n hC 1 rfl rfl dX5_removeFirst_93 ?_
      refine V_iadd hC dX5_removeFirst_94 ?_
      refine V_iast hC _ rfl 4 rfl hw.1 dX5_removeFirst_95 (fun f4 ef4 => ?_)
      have hw := hw.2
      have hw := hw f4 ef4
      refine V_ws [(h0, .inr (4, [.ref h1, .ref h2, .ref h3, .ref h4, .int (n_waiting - 1), .int n_pointer, .int n_granted])), (h1, .inl (E.2.1, 128, .inl a_sizes)), (h2, .inl (E.2.1, 16, .inl a_lengths)), (h3, .inl (E.2.1, 16, .inl f3)), (h4, .inl (E.2.1, 16, .inl f4))] rfl ?_
      exact V_vret hC hr ⟨a_sizes, a_lengths, f3, f4, n_waiting - 1, rfl, rfl, hw⟩ dX5_removeFirst_96
    · have hw := hw.2 c2
      refine V_aload_n hC 0 rfl rfl dX5_removeFirst_36 ?_
      refine V_get hC inX5 rfl 0 (by decide) wd_126 0 rfl rfl dX5_removeFirst_37 ?_
      refine V_iload_n hC 2 rfl rfl dX5_removeFirst_40 ?_
      refine V_iload_n hC 3 rfl rfl dX5_removeFirst_41 ?_
      refine V_iadd hC dX5_removeFirst_42 ?_
      refine V_aload_n hC 0 rfl rfl dX5_removeFirst_43 ?_
      refine V_get hC inX5 rfl 0 (by decide) wd_126 0 rfl rfl dX5_removeFirst_44 ?_
      refine V_iload_n hC 2 rfl rfl dX5_removeFirst_47 ?_
      refine V_iload_n hC 3 rfl rfl dX5_removeFirst_48 ?_
      refine V_iadd hC dX5_removeFirst_49 ?_
      refine V_iconst hC 1 dX5_removeFirst_50 (by decide) ?_
      refine V_iadd hC dX5_removeFirst_51 ?_
      refine V_iald hC _ rfl 1 rfl hw.1 dX5_removeFirst_52 ?_
      have hw := hw.2
      refine V_iast hC _ rfl 1 rfl hw.1 dX5_removeFirst_53 (fun f5 ef5 => ?_)
      have hw := hw.2
      have hw := hw f5 ef5
      refine V_ws [(h0, .inr (4, [.ref h1, .ref h2, .ref h3, .ref h4, .int n_waiting, .int n_pointer, .int n_granted])), (h1, .inl (E.2.1, 128, .inl f5)), (h2, .inl (E.2.1, 16, .inl a_lengths)), (h3, .inl (E.2.1, 16, .inl a_credits)), (h4, .inl (E.2.1, 16, .inl a_totals))] rfl ?_
      refine V_iinc hC (x3 + 1) 3 [(3, .int (x3 + 1)), (0, .ref h0), (1, .int x1), (2, .int x2)] rfl (congrArg (fun z => x3 + z) (by decide : Int32.ofInt (1) = (1 : Int32))) (by decide) rfl dX5_removeFirst_54 ?_
      refine V_goto hC 23 (by decide) dX5_removeFirst_57 ?_
      refine V_cast [(0, .ref h0), (1, .int x1), (2, .int x2), (3, .int (x3 + 1))] [] [(h0, .inr (4, [.ref h1, .ref h2, .ref h3, .ref h4, .int n_waiting, .int n_pointer, .int n_granted])), (h1, .inl (E.2.1, 128, .inl f5)), (h2, .inl (E.2.1, 16, .inl a_lengths)), (h3, .inl (E.2.1, 16, .inl a_credits)), (h4, .inl (E.2.1, 16, .inl a_totals))] [1, 2, 3, 0] [0, 1, 2, 3, 4] rfl rfl rfl rfl ?_
      exact ih x1 x2 (x3 + 1) f5 a_lengths a_credits a_totals n_waiting hw
def wp_X5_removeFirst (a_sizes : Nat → Int32) (a_lengths : Nat → Int32) (a_credits : Nat → Int32) (a_totals : Nat → Int32) (n_waiting : Int32) (n_pointer : Int32) (n_granted : Int32) (p1 : Int32) (K : (Nat → Int32) → (Nat → Int32) → (Nat → Int32) → (Nat → Int32) → Int32 → Prop) : Prop := (vp_in n_pointer 16 ∧ (vp_in n_pointer 16 ∧ (∀ f1 : Nat → Int32, f1 = upd a_lengths (Int32.toNatClampNeg n_pointer) ((a_lengths (Int32.toNatClampNeg n_pointer)) - 1) → (∃ n8 : Nat, wpl_X5_removeFirst_23 n_pointer n_granted K n8 p1 (n_pointer * 8) 0 a_sizes f1 a_credits a_totals n_waiting))))
set_option maxRecDepth 100000 in
set_option maxHeartbeats 4000000 in
theorem ct_X5_removeFirst (l : Launch) (E : EN) (h0 : Nat) (h1 : Nat) (h2 : Nat) (h3 : Nat) (h4 : Nat) (a_sizes : Nat → Int32) (a_lengths : Nat → Int32) (a_credits : Nat → Int32) (a_totals : Nat → Int32) (n_waiting : Int32) (n_pointer : Int32) (n_granted : Int32) (p1 : Int32) (K : (Nat → Int32) → (Nat → Int32) → (Nat → Int32) → (Nat → Int32) → Int32 → Prop) (hw : wp_X5_removeFirst a_sizes a_lengths a_credits a_totals n_waiting n_pointer n_granted p1 K) : Con l yX5_removeFirst cX5_removeFirst 4 (none) { frames := 0, cells := 0, slots := 0, locals := 0 } E [.ref h0, .int p1] [(h0, .inr (4, [.ref h1, .ref h2, .ref h3, .ref h4, .int n_waiting, .int n_pointer, .int n_granted])), (h1, .inl (E.2.1, 128, .inl a_sizes)), (h2, .inl (E.2.1, 16, .inl a_lengths)), (h3, .inl (E.2.1, 16, .inl a_credits)), (h4, .inl (E.2.1, 16, .inl a_totals))] (po_X5_removeFirst E h0 h1 h2 h3 h4 n_pointer n_granted K) := by
  refine Con.mk (by decide +kernel) (Nat.le_of_ble_eq_true rfl) ?_
  intro p e s m below meth c A hC hr hin
  have hC : Cx p s m _ meth c E A cX5_removeFirst 4 "CookieServer$Service" := hC
  rw [wp_X5_removeFirst] at hw
  refine V_cast [(0, .ref h0), (1, .int p1)] [] [(h0, .inr (4, [.ref h1, .ref h2, .ref h3, .ref h4, .int n_waiting, .int n_pointer, .int n_granted])), (h1, .inl (E.2.1, 128, .inl a_sizes)), (h2, .inl (E.2.1, 16, .inl a_lengths)), (h3, .inl (E.2.1, 16, .inl a_credits)), (h4, .inl (E.2.1, 16, .inl a_totals))] [0, 1] [0, 1, 2, 3, 4] rfl rfl rfl rfl ?_
  refine V_aload_n hC 0 rfl rfl dX5_removeFirst_0 ?_
  refine V_get hC inX5 rfl 5 (by decide) wd_134 0 rfl rfl dX5_removeFirst_1 ?_
  refine V_bipush hC 8 dX5_removeFirst_4 (by decide) ?_
  refine V_imul hC dX5_removeFirst_6 ?_
  refine V_istore_n hC [(2, .int (n_pointer * 8)), (0, .ref h0), (1, .int p1)] rfl (by decide) rfl dX5_removeFirst_7 ?_
  refine V_aload_n hC 1 rfl rfl dX5_removeFirst_8 ?_
  refine V_get hC inX5 rfl 1 (by decide) wd_127 0 rfl rfl dX5_removeFirst_9 ?_
  refine V_aload_n hC 1 rfl rfl dX5_removeFirst_12 ?_
  refine V_get hC inX5 rfl 5 (by decide) wd_134 0 rfl rfl dX5_removeFirst_13 ?_
  refine V_dup2 hC rfl rfl dX5_removeFirst_16 ?_
  refine V_iald hC _ rfl 2 rfl hw.1 dX5_removeFirst_17 ?_
  have hw := hw.2
  refine V_iconst hC 1 dX5_removeFirst_18 (by decide) ?_
  refine V_isub hC dX5_removeFirst_19 ?_
  refine V_iast hC _ rfl 2 rfl hw.1 dX5_removeFirst_20 (fun f1 ef1 => ?_)
  have hw := hw.2
  have hw := hw f1 ef1
  refine V_ws [(h0, .inr (4, [.ref h1, .ref h2, .ref h3, .ref h4, .int n_waiting, .int n_pointer, .int n_granted])), (h1, .inl (E.2.1, 128, .inl a_sizes)), (h2, .inl (E.2.1, 16, .inl f1)), (h3, .inl (E.2.1, 16, .inl a_credits)), (h4, .inl (E.2.1, 16, .inl a_totals))] rfl ?_
  refine V_iconst hC 0 dX5_removeFirst_21 (by decide) ?_
  refine V_istore_n hC [(3, .int 0), (2, .int (n_pointer * 8)), (0, .ref h0), (1, .int p1)] rfl (by decide) rfl dX5_removeFirst_22 ?_
  refine V_cast [(0, .ref h0), (1, .int p1), (2, .int (n_pointer * 8)), (3, .int 0)] [] [(h0, .inr (4, [.ref h1, .ref h2, .ref h3, .ref h4, .int n_waiting, .int n_pointer, .int n_granted])), (h1, .inl (E.2.1, 128, .inl a_sizes)), (h2, .inl (E.2.1, 16, .inl f1)), (h3, .inl (E.2.1, 16, .inl a_credits)), (h4, .inl (E.2.1, 16, .inl a_totals))] [2, 3, 1, 0] [0, 1, 2, 3, 4] rfl rfl rfl rfl ?_
  obtain ⟨n8, hw⟩ := hw
  exact bl_X5_removeFirst_23 hC hr h0 h1 h2 h3 h4 n_pointer n_granted K n8 p1 (n_pointer * 8) 0 a_sizes f1 a_credits a_totals n_waiting hw
abbrev po_X5_spend (E : EN) (h0 : Nat) (h1 : Nat) (h2 : Nat) (h3 : Nat) (h4 : Nat) (K : Int32 → (Nat → Int32) → (Nat → Int32) → (Nat → Int32) → (Nat → Int32) → Int32 → Int32 → Int32 → Prop) : Option Value → va_W → Prop := fun v ws' => ∃ (r0 : Int32) (a_sizes : Nat → Int32) (a_lengths : Nat → Int32) (a_credits : Nat → Int32) (a_totals : Nat → Int32) (n_waiting : Int32) (n_pointer : Int32) (n_granted : Int32), v = some (.int r0) ∧ ws' = [(h0, .inr (4, [.ref h1, .ref h2, .ref h3, .ref h4, .int n_waiting, .int n_pointer, .int n_granted])), (h1, .inl (E.2.1, 128, .inl a_sizes)), (h2, .inl (E.2.1, 16, .inl a_lengths)), (h3, .inl (E.2.1, 16, .inl a_credits)), (h4, .inl (E.2.1, 16, .inl a_totals))] ∧ K r0 a_sizes a_lengths a_credits a_totals n_waiting n_pointer n_granted
def wpl_X5_spend_29 (J7 : Int32 → Int32 → Int32 → Int32 → (Nat → Int32) → (Nat → Int32) → (Nat → Int32) → (Nat → Int32) → Int32 → Int32 → Int32 → Prop) (K : Int32 → (Nat → Int32) → (Nat → Int32) → (Nat → Int32) → (Nat → Int32) → Int32 → Int32 → Int32 → Prop) : Nat → Int32 → Int32 → Int32 → Int32 → Int32 → (Nat → Int32) → (Nat → Int32) → (Nat → Int32) → (Nat → Int32) → Int32 → Int32 → Int32 → Prop
  | 0, _, _, _, _, _, _, _, _, _, _, _, _ => False
  | n9 + 1, x1, x2, x3, x4, x5, a_sizes, a_lengths, a_credits, a_totals, n_waiting, n_pointer, n_granted => ((8 ≤ x5 → (wp_X5_moveOn a_sizes a_lengths a_credits a_totals n_waiting n_pointer n_granted (fun (g6 : Nat → Int32) (s7 : Int32) (s8 : Int32) => J7 x1 x2 x3 (x4 + 1) a_sizes a_lengths g6 a_totals n_waiting s7 s8))) ∧ (¬ (8 ≤ x5) → (wp_X5_isFirstCovered a_sizes a_lengths a_credits a_totals n_waiting n_pointer n_granted (fun (r9 : Int32) => ((r9 = 0 → (wp_X5_moveOn a_sizes a_lengths a_credits a_totals n_waiting n_pointer n_granted (fun (g11 : Nat → Int32) (s12 : Int32) (s13 : Int32) => J7 x1 x2 x3 (x4 + 1) a_sizes a_lengths g11 a_totals n_waiting s12 s13))) ∧ (¬ (r9 = 0) → (vp_in (n_pointer * 8) 128 ∧ (((a_sizes (Int32.toNatClampNeg (n_pointer * 8))) ≤ x2 → (wp_X5_removeFirst a_sizes a_lengths a_credits a_totals n_waiting n_pointer n_granted (a_sizes (Int32.toNatClampNeg (n_pointer * 8))) (fun (g15 : Nat → Int32) (g16 : Nat → Int32) (g17 : Nat → Int32) (g18 : Nat → Int32) (s19 : Int32) => wpl_X5_spend_29 J7 K n9 x1 (x2 - (a_sizes (Int32.toNatClampNeg (n_pointer * 8)))) (x3 + 1) x4 (x5 + 1) g15 g16 g17 g18 s19 n_pointer n_granted))) ∧ (¬ ((a_sizes (Int32.toNatClampNeg (n_pointer * 8))) ≤ x2) → K x3 a_sizes a_lengths a_credits a_totals n_waiting n_pointer n_granted)))))))))
set_option maxRecDepth 100000 in
set_option maxHeartbeats 4000000 in
theorem bl_X5_spend_29 {p : Program} {l : Launch} {e : Env} {s : State} {m : MethodId} {args : Array Value} {below : List Frame} {meth : Method} {c : Code} {E : EN} {A : Nat → Prop} (hC : Cx p s m args meth c E A cX5_spend 7 "CookieServer$Service") (hr : meth.sig.returnType = some .int) (h0 : Nat) (h1 : Nat) (h2 : Nat) (h3 : Nat) (h4 : Nat) (J7 : Int32 → Int32 → Int32 → Int32 → (Nat → Int32) → (Nat → Int32) → (Nat → Int32) → (Nat → Int32) → Int32 → Int32 → Int32 → Prop) (K : Int32 → (Nat → Int32) → (Nat → Int32) → (Nat → Int32) → (Nat → Int32) → Int32 → Int32 → Int32 → Prop) (hJ7 : ∀ (x1 : Int32) (x2 : Int32) (x3 : Int32) (x4 : Int32) (a_sizes : Nat → Int32) (a_lengths : Nat → Int32) (a_credits : Nat → Int32) (a_totals : Nat → Int32) (n_waiting : Int32) (n_pointer : Int32) (n_granted : Int32), J7 x1 x2 x3 x4 a_sizes a_lengths a_credits a_totals n_waiting n_pointer n_granted → V p l e { frames := 1, cells := 0, slots := 0, locals := 23 } s m args below meth c E A 7 0 0 (MQ below (QP E (po_X5_spend E h0 h1 h2 h3 h4 K) A) args s 0 0 A) 7 [(0, .ref h0), (1, .int x1), (2, .int x2), (3, .int x3), (4, .int x4)] [] [(h0, .inr (4, [.ref h1, .ref h2, .ref h3, .ref h4, .int n_waiting, .int n_pointer, .int n_granted])), (h1, .inl (E.2.1, 128, .inl a_sizes)), (h2, .inl (E.2.1, 16, .inl a_lengths)), (h3, .inl (E.2.1, 16, .inl a_credits)), (h4, .inl (E.2.1, 16, .inl a_totals))]) : ∀ (n8 : Nat) (x1 : Int32) (x2 : Int32) (x3 : Int32) (x4 : Int32) (x5 : Int32) (a_sizes : Nat → Int32) (a_lengths : Nat → Int32) (a_credits : Nat → Int32) (a_totals : Nat → Int32) (n_waiting : Int32) (n_pointer : Int32) (n_granted : Int32), wpl_X5_spend_29 J7 K n8 x1 x2 x3 x4 x5 a_sizes a_lengths a_credits a_totals n_waiting n_pointer n_granted → V p l e { frames := 1, cells := 0, slots := 0, locals := 23 } s m args below meth c E A 7 0 0 (MQ below (QP E (po_X5_spend E h0 h1 h2 h3 h4 K) A) args s 0 0 A) 29 [(0, .ref h0), (1, .int x1), (2, .int x2), (3, .int x3), (4, .int x4), (5, .int x5)] [] [(h0, .inr (4, [.ref h1, .ref h2, .ref h3, .ref h4, .int n_waiting, .int n_pointer, .int n_granted])), (h1, .inl (E.2.1, 128, .inl a_sizes)), (h2, .inl (E.2.1, 16, .inl a_lengths)), (h3, .inl (E.2.1, 16, .inl a_credits)), (h4, .inl (E.2.1, 16, .inl a_totals))] := by
  intro n8
  induction n8 with
  | zero => intro x1 x2 x3 x4 x5 a_sizes a_lengths a_credits a_totals n_waiting n_pointer n_granted hw; rw [wpl_X5_spend_29] at hw; exact hw.elim
  | succ n9 ih =>
    intro x1 x2 x3 x4 x5 a_sizes a_lengths a_credits a_totals n_waiting n_pointer n_granted hw
    rw [wpl_X5_spend_29] at hw
    refine V_iload hC 5 rfl dX5_spend_29 ?_
    refine V_bipush hC 8 dX5_spend_31 (by decide) ?_
    refine V_icmp_ge hC 85 (by decide) dX5_spend_33 (fun c5 => ?_) (fun c5 => ?_)
    · have hw := hw.1 c5
      refine V_aload_n hC 0 rfl rfl dX5_spend_85 ?_
      refine V_callV hC (wr := []) 0 [] [] (ct_X5_moveOn l E h0 h1 h2 h3 h4 a_sizes a_lengths a_credits a_totals n_waiting n_pointer n_granted _ hw) wd_532 wd_38 wd_529 wd_531 wd_11 (by decide +kernel) rfl ⟨Nat.le_of_ble_eq_true rfl, Nat.le_of_ble_eq_true rfl⟩ [0, 1, 2, 3, 4] [] rfl rfl rfl rfl (by decide) rfl rfl rfl (Nat.le_of_ble_eq_true rfl) ⟨Nat.le_of_ble_eq_true rfl, Nat.le_of_ble_eq_true rfl⟩ dX5_spend_86 (fun v ws' hp => ?_)
      obtain ⟨g6, s7, s8, rfl, rfl, hw⟩ := hp
      refine V_cast [(0, .ref h0), (1, .int x1), (2, .int x2), (3, .int x3), (4, .int x4), (5, .int x5)] [] [(h0, .inr (4, [.ref h1, .ref h2, .ref h3, .ref h4, .int n_waiting, .int s7, .int s8])), (h1, .inl (E.2.1, 128, .inl a_sizes)), (h2, .inl (E.2.1, 16, .inl a_lengths)), (h3, .inl (E.2.1, 16, .inl g6)), (h4, .inl (E.2.1, 16, .inl a_totals))] [0, 1, 2, 3, 4, 5] [0, 1, 2, 3, 4] rfl rfl rfl rfl ?_
      refine V_iinc hC (x4 + 1) 4 [(4, .int (x4 + 1)), (0, .ref h0), (1, .int x1), (2, .int x2), (3, .int x3), (5, .int x5)] rfl (congrArg (fun z => x4 + z) (by decide : Int32.ofInt (1) = (1 : Int32))) (by decide) rfl dX5_spend_89 ?_
      refine V_goto hC 7 (by decide) dX5_spend_92 ?_
      refine V_cast [(0, .ref h0), (1, .int x1), (2, .int x2), (3, .int x3), (4, .int (x4 + 1))] [] [(h0, .inr (4, [.ref h1, .ref h2, .ref h3, .ref h4, .int n_waiting, .int s7, .int s8])), (h1, .inl (E.2.1, 128, .inl a_sizes)), (h2, .inl (E.2.1, 16, .inl a_lengths)), (h3, .inl (E.2.1, 16, .inl g6)), (h4, .inl (E.2.1, 16, .inl a_totals))] [1, 2, 3, 4, 0] [0, 1, 2, 3, 4] rfl rfl rfl rfl ?_
      exact hJ7 x1 x2 x3 (x4 + 1) a_sizes a_lengths g6 a_totals n_waiting s7 s8 hw
    · have hw := hw.2 c5
      refine V_aload_n hC 0 rfl rfl dX5_spend_36 ?_
      refine V_callV hC (wr := []) 0 [] [] (ct_X5_isFirstCovered l E h0 h1 h2 h3 h4 a_sizes a_lengths a_credits a_totals n_waiting n_pointer n_granted _ hw) wd_524 wd_38 wd_521 wd_523 wd_9 (by decide +kernel) rfl ⟨Nat.le_of_ble_eq_true rfl, Nat.le_of_ble_eq_true rfl⟩ [0, 1, 2, 3, 4] [] rfl rfl rfl rfl (by decide) rfl rfl rfl (Nat.le_of_ble_eq_true rfl) ⟨Nat.le_of_ble_eq_true rfl, Nat.le_of_ble_eq_true rfl⟩ dX5_spend_37 (fun v ws' hp => ?_)
      obtain ⟨r9, rfl, rfl, hw⟩ := hp
      refine V_cast [(0, .ref h0), (1, .int x1), (2, .int x2), (3, .int x3), (4, .int x4), (5, .int x5)] [.int r9] [(h0, .inr (4, [.ref h1, .ref h2, .ref h3, .ref h4, .int n_waiting, .int n_pointer, .int n_granted])), (h1, .inl (E.2.1, 128, .inl a_sizes)), (h2, .inl (E.2.1, 16, .inl a_lengths)), (h3, .inl (E.2.1, 16, .inl a_credits)), (h4, .inl (E.2.1, 16, .inl a_totals))] [0, 1, 2, 3, 4, 5] [0, 1, 2, 3, 4] rfl rfl rfl rfl ?_
      refine V_if_eq hC 85 (by decide) dX5_spend_40 (fun c10 => ?_) (fun c10 => ?_)
      · have hw := hw.1 c10
        refine V_aload_n hC 0 rfl rfl dX5_spend_85 ?_
        refine V_callV hC (wr := []) 0 [] [] (ct_X5_moveOn l E h0 h1 h2 h3 h4 a_sizes a_lengths a_credits a_totals n_waiting n_pointer n_granted _ hw) wd_532 wd_38 wd_529 wd_531 wd_11 (by decide +kernel) rfl ⟨Nat.le_of_ble_eq_true rfl, Nat.le_of_ble_eq_true rfl⟩ [0, 1, 2, 3, 4] [] rfl rfl rfl rfl (by decide) rfl rfl rfl (Nat.le_of_ble_eq_true rfl) ⟨Nat.le_of_ble_eq_true rfl, Nat.le_of_ble_eq_true rfl⟩ dX5_spend_86 (fun v ws' hp => ?_)
        obtain ⟨g11, s12, s13, rfl, rfl, hw⟩ := hp
        refine V_cast [(0, .ref h0), (1, .int x1), (2, .int x2), (3, .int x3), (4, .int x4), (5, .int x5)] [] [(h0, .inr (4, [.ref h1, .ref h2, .ref h3, .ref h4, .int n_waiting, .int s12, .int s13])), (h1, .inl (E.2.1, 128, .inl a_sizes)), (h2, .inl (E.2.1, 16, .inl a_lengths)), (h3, .inl (E.2.1, 16, .inl g11)), (h4, .inl (E.2.1, 16, .inl a_totals))] [0, 1, 2, 3, 4, 5] [0, 1, 2, 3, 4] rfl rfl rfl rfl ?_
        refine V_iinc hC (x4 + 1) 4 [(4, .int (x4 + 1)), (0, .ref h0), (1, .int x1), (2, .int x2), (3, .int x3), (5, .int x5)] rfl (congrArg (fun z => x4 + z) (by decide : Int32.ofInt (1) = (1 : Int32))) (by decide) rfl dX5_spend_89 ?_
        refine V_goto hC 7 (by decide) dX5_spend_92 ?_
        refine V_cast [(0, .ref h0), (1, .int x1), (2, .int x2), (3, .int x3), (4, .int (x4 + 1))] [] [(h0, .inr (4, [.ref h1, .ref h2, .ref h3, .ref h4, .int n_waiting, .int s12, .int s13])), (h1, .inl (E.2.1, 128, .inl a_sizes)), (h2, .inl (E.2.1, 16, .inl a_lengths)), (h3, .inl (E.2.1, 16, .inl g11)), (h4, .inl (E.2.1, 16, .inl a_totals))] [1, 2, 3, 4, 0] [0, 1, 2, 3, 4] rfl rfl rfl rfl ?_
        exact hJ7 x1 x2 x3 (x4 + 1) a_sizes a_lengths g11 a_totals n_waiting s12 s13 hw
      · have hw := hw.2 c10
        refine V_aload_n hC 0 rfl rfl dX5_spend_43 ?_
        refine V_get hC inX5 rfl 0 (by decide) wd_126 0 rfl rfl dX5_spend_44 ?_
        refine V_aload_n hC 0 rfl rfl dX5_spend_47 ?_
        refine V_get hC inX5 rfl 5 (by decide) wd_134 0 rfl rfl dX5_spend_48 ?_
        refine V_bipush hC 8 dX5_spend_51 (by decide) ?_
        refine V_imul hC dX5_spend_53 ?_
        refine V_iald hC _ rfl 1 rfl hw.1 dX5_spend_54 ?_
        have hw := hw.2
        refine V_istore hC [(6, .int (a_sizes (Int32.toNatClampNeg (n_pointer * 8)))), (0, .ref h0), (1, .int x1), (2, .int x2), (3, .int x3), (4, .int x4), (5, .int x5)] (by decide) rfl dX5_spend_55 ?_
        refine V_iload hC 0 rfl dX5_spend_57 ?_
        refine V_iload_n hC 3 rfl rfl dX5_spend_59 ?_
        refine V_icmp_le hC 65 (by decide) dX5_spend_60 (fun c14 => ?_) (fun c14 => ?_)
        · have hw := hw.1 c14
          refine V_aload_n hC 1 rfl rfl dX5_spend_65 ?_
          refine V_iload hC 0 rfl dX5_spend_66 ?_
          refine V_callV hC (wr := []) 1 [.int (a_sizes (Int32.toNatClampNeg (n_pointer * 8)))] [] (ct_X5_removeFirst l E h0 h1 h2 h3 h4 a_sizes a_lengths a_credits a_totals n_waiting n_pointer n_granted (a_sizes (Int32.toNatClampNeg (n_pointer * 8))) _ hw) wd_528 wd_38 wd_525 wd_527 wd_10 (by decide +kernel) rfl ⟨Nat.le_of_ble_eq_true rfl, Nat.le_of_ble_eq_true rfl⟩ [0, 1, 2, 3, 4] [] rfl rfl rfl rfl (by decide) rfl rfl rfl (Nat.le_of_ble_eq_true rfl) ⟨Nat.le_of_ble_eq_true rfl, Nat.le_of_ble_eq_true rfl⟩ dX5_spend_68 (fun v ws' hp => ?_)
          obtain ⟨g15, g16, g17, g18, s19, rfl, rfl, hw⟩ := hp
          refine V_cast [(6, .int (a_sizes (Int32.toNatClampNeg (n_pointer * 8)))), (0, .ref h0), (1, .int x1), (2, .int x2), (3, .int x3), (4, .int x4), (5, .int x5)] [] [(h0, .inr (4, [.ref h1, .ref h2, .ref h3, .ref h4, .int s19, .int n_pointer, .int n_granted])), (h1, .inl (E.2.1, 128, .inl g15)), (h2, .inl (E.2.1, 16, .inl g16)), (h3, .inl (E.2.1, 16, .inl g17)), (h4, .inl (E.2.1, 16, .inl g18))] [0, 1, 2, 3, 4, 5, 6] [0, 1, 2, 3, 4] rfl rfl rfl rfl ?_
          refine V_iload_n hC 3 rfl rfl dX5_spend_71 ?_
          refine V_iload hC 0 rfl dX5_spend_72 ?_
          refine V_isub hC dX5_spend_74 ?_
          refine V_istore_n hC [(2, .int (x2 - (a_sizes (Int32.toNatClampNeg (n_pointer * 8))))), (6, .int (a_sizes (Int32.toNatClampNeg (n_pointer * 8)))), (0, .ref h0), (1, .int x1), (3, .int x3), (4, .int x4), (5, .int x5)] rfl (by decide) rfl dX5_spend_75 ?_
          refine V_iinc hC (x3 + 1) 4 [(3, .int (x3 + 1)), (2, .int (x2 - (a_sizes (Int32.toNatClampNeg (n_pointer * 8))))), (6, .int (a_sizes (Int32.toNatClampNeg (n_pointer * 8)))), (0, .ref h0), (1, .int x1), (4, .int x4), (5, .int x5)] rfl (congrArg (fun z => x3 + z) (by decide : Int32.ofInt (1) = (1 : Int32))) (by decide) rfl dX5_spend_76 ?_
          refine V_iinc hC (x5 + 1) 6 [(5, .int (x5 + 1)), (3, .int (x3 + 1)), (2, .int (x2 - (a_sizes (Int32.toNatClampNeg (n_pointer * 8))))), (6, .int (a_sizes (Int32.toNatClampNeg (n_pointer * 8)))), (0, .ref h0), (1, .int x1), (4, .int x4)] rfl (congrArg (fun z => x5 + z) (by decide : Int32.ofInt (1) = (1 : Int32))) (by decide) rfl dX5_spend_79 ?_
          refine V_goto hC 29 (by decide) dX5_spend_82 ?_
          refine V_cast [(0, .ref h0), (1, .int x1), (2, .int (x2 - (a_sizes (Int32.toNatClampNeg (n_pointer * 8))))), (3, .int (x3 + 1)), (4, .int x4), (5, .int (x5 + 1))] [] [(h0, .inr (4, [.ref h1, .ref h2, .ref h3, .ref h4, .int s19, .int n_pointer, .int n_granted])), (h1, .inl (E.2.1, 128, .inl g15)), (h2, .inl (E.2.1, 16, .inl g16)), (h3, .inl (E.2.1, 16, .inl g17)), (h4, .inl (E.2.1, 16, .inl g18))] [4, 5, 2, 1, 6, 0] [0, 1, 2, 3, 4] rfl rfl rfl rfl ?_
          exact ih x1 (x2 - (a_sizes (Int32.toNatClampNeg (n_pointer * 8)))) (x3 + 1) x4 (x5 + 1) g15 g16 g17 g18 s19 n_pointer n_granted hw
        · have hw := hw.2 c14
          refine V_iload_n hC 4 rfl rfl dX5_spend_63 ?_
          exact V_iret hC hr ⟨x3, a_sizes, a_lengths, a_credits, a_totals, n_waiting, n_pointer, n_granted, rfl, rfl, hw⟩ dX5_spend_64
def wpl_X5_spend_7 (K : Int32 → (Nat → Int32) → (Nat → Int32) → (Nat → Int32) → (Nat → Int32) → Int32 → Int32 → Int32 → Prop) : Nat → Int32 → Int32 → Int32 → Int32 → (Nat → Int32) → (Nat → Int32) → (Nat → Int32) → (Nat → Int32) → Int32 → Int32 → Int32 → Prop
  | 0, _, _, _, _, _, _, _, _, _, _, _ => False
  | n9 + 1, x1, x2, x3, x4, a_sizes, a_lengths, a_credits, a_totals, n_waiting, n_pointer, n_granted => ((10000 ≤ x4 → K x3 a_sizes a_lengths a_credits a_totals n_waiting n_pointer n_granted) ∧ (¬ (10000 ≤ x4) → ((n_waiting ≤ 0 → K x3 a_sizes a_lengths a_credits a_totals n_waiting n_pointer n_granted) ∧ (¬ (n_waiting ≤ 0) → (wp_X5_grant a_sizes a_lengths a_credits a_totals n_waiting n_pointer n_granted (fun (g3 : Nat → Int32) (s4 : Int32) => (∃ n8 : Nat, wpl_X5_spend_29 (fun (x1 : Int32) (x2 : Int32) (x3 : Int32) (x4 : Int32) (a_sizes : Nat → Int32) (a_lengths : Nat → Int32) (a_credits : Nat → Int32) (a_totals : Nat → Int32) (n_waiting : Int32) (n_pointer : Int32) (n_granted : Int32) => wpl_X5_spend_7 K n9 x1 x2 x3 x4 a_sizes a_lengths a_credits a_totals n_waiting n_pointer n_granted) K n8 x1 x2 x3 x4 0 a_sizes a_lengths g3 a_totals n_waiting n_pointer s4)))))))
set_option maxRecDepth 100000 in
set_option maxHeartbeats 4000000 in
theorem bl_X5_spend_7 {p : Program} {l : Launch} {e : Env} {s : State} {m : MethodId} {args : Array Value} {below : List Frame} {meth : Method} {c : Code} {E : EN} {A : Nat → Prop} (hC : Cx p s m args meth c E A cX5_spend 7 "CookieServer$Service") (hr : meth.sig.returnType = some .int) (h0 : Nat) (h1 : Nat) (h2 : Nat) (h3 : Nat) (h4 : Nat) (K : Int32 → (Nat → Int32) → (Nat → Int32) → (Nat → Int32) → (Nat → Int32) → Int32 → Int32 → Int32 → Prop) : ∀ (n8 : Nat) (x1 : Int32) (x2 : Int32) (x3 : Int32) (x4 : Int32) (a_sizes : Nat → Int32) (a_lengths : Nat → Int32) (a_credits : Nat → Int32) (a_totals : Nat → Int32) (n_waiting : Int32) (n_pointer : Int32) (n_granted : Int32), wpl_X5_spend_7 K n8 x1 x2 x3 x4 a_sizes a_lengths a_credits a_totals n_waiting n_pointer n_granted → V p l e { frames := 1, cells := 0, slots := 0, locals := 23 } s m args below meth c E A 7 0 0 (MQ below (QP E (po_X5_spend E h0 h1 h2 h3 h4 K) A) args s 0 0 A) 7 [(0, .ref h0), (1, .int x1), (2, .int x2), (3, .int x3), (4, .int x4)] [] [(h0, .inr (4, [.ref h1, .ref h2, .ref h3, .ref h4, .int n_waiting, .int n_pointer, .int n_granted])), (h1, .inl (E.2.1, 128, .inl a_sizes)), (h2, .inl (E.2.1, 16, .inl a_lengths)), (h3, .inl (E.2.1, 16, .inl a_credits)), (h4, .inl (E.2.1, 16, .inl a_totals))] := by
  intro n8
  induction n8 with
  | zero => intro x1 x2 x3 x4 a_sizes a_lengths a_credits a_totals n_waiting n_pointer n_granted hw; rw [wpl_X5_spend_7] at hw; exact hw.elim
  | succ n9 ih =>
    intro x1 x2 x3 x4 a_sizes a_lengths a_credits a_totals n_waiting n_pointer n_granted hw
    rw [wpl_X5_spend_7] at hw
    refine V_iload hC 4 rfl dX5_spend_7 ?_
    refine V_sipush hC 10000 dX5_spend_9 (by decide) ?_
    refine V_icmp_ge hC 95 (by decide) dX5_spend_12 (fun c1 => ?_) (fun c1 => ?_)
    · have hw := hw.1 c1
      refine V_iload_n hC 3 rfl rfl dX5_spend_95 ?_
      exact V_iret hC hr ⟨x3, a_sizes, a_lengths, a_credits, a_totals, n_waiting, n_pointer, n_granted, rfl, rfl, hw⟩ dX5_spend_96
    · have hw := hw.2 c1
      refine V_aload_n hC 0 rfl rfl dX5_spend_15 ?_
      refine V_get hC inX5 rfl 4 (by decide) wd_133 0 rfl rfl dX5_spend_16 ?_
      refine V_if_le hC 95 (by decide) dX5_spend_19 (fun c2 => ?_) (fun c2 => ?_)
      · have hw := hw.1 c2
        refine V_iload_n hC 3 rfl rfl dX5_spend_95 ?_
        exact V_iret hC hr ⟨x3, a_sizes, a_lengths, a_credits, a_totals, n_waiting, n_pointer, n_granted, rfl, rfl, hw⟩ dX5_spend_96
      · have hw := hw.2 c2
        refine V_aload_n hC 0 rfl rfl dX5_spend_22 ?_
        refine V_callV hC (wr := []) 0 [] [] (ct_X5_grant l E h0 h1 h2 h3 h4 a_sizes a_lengths a_credits a_totals n_waiting n_pointer n_granted _ hw) wd_520 wd_38 wd_517 wd_519 wd_8 (by decide +kernel) rfl ⟨Nat.le_of_ble_eq_true rfl, Nat.le_of_ble_eq_true rfl⟩ [0, 1, 2, 3, 4] [] rfl rfl rfl rfl (by decide) rfl rfl rfl (Nat.le_of_ble_eq_true rfl) ⟨Nat.le_of_ble_eq_true rfl, Nat.le_of_ble_eq_true rfl⟩ dX5_spend_23 (fun v ws' hp => ?_)
        obtain ⟨g3, s4, rfl, rfl, hw⟩ := hp
        refine V_cast [(0, .ref h0), (1, .int x1), (2, .int x2), (3, .int x3), (4, .int x4)] [] [(h0, .inr (4, [.ref h1, .ref h2, .ref h3, .ref h4, .int n_waiting, .int n_pointer, .int s4])), (h1, .inl (E.2.1, 128, .inl a_sizes)), (h2, .inl (E.2.1, 16, .inl a_lengths)), (h3, .inl (E.2.1, 16, .inl g3)), (h4, .inl (E.2.1, 16, .inl a_totals))] [0, 1, 2, 3, 4] [0, 1, 2, 3, 4] rfl rfl rfl rfl ?_
        refine V_iconst hC 0 dX5_spend_26 (by decide) ?_
        refine V_istore hC [(5, .int 0), (0, .ref h0), (1, .int x1), (2, .int x2), (3, .int x3), (4, .int x4)] (by decide) rfl dX5_spend_27 ?_
        refine V_cast [(0, .ref h0), (1, .int x1), (2, .int x2), (3, .int x3), (4, .int x4), (5, .int 0)] [] [(h0, .inr (4, [.ref h1, .ref h2, .ref h3, .ref h4, .int n_waiting, .int n_pointer, .int s4])), (h1, .inl (E.2.1, 128, .inl a_sizes)), (h2, .inl (E.2.1, 16, .inl a_lengths)), (h3, .inl (E.2.1, 16, .inl g3)), (h4, .inl (E.2.1, 16, .inl a_totals))] [1, 2, 3, 4, 5, 0] [0, 1, 2, 3, 4] rfl rfl rfl rfl ?_
        obtain ⟨n8, hw⟩ := hw
        exact bl_X5_spend_29 hC hr h0 h1 h2 h3 h4 (fun (x1 : Int32) (x2 : Int32) (x3 : Int32) (x4 : Int32) (a_sizes : Nat → Int32) (a_lengths : Nat → Int32) (a_credits : Nat → Int32) (a_totals : Nat → Int32) (n_waiting : Int32) (n_pointer : Int32) (n_granted : Int32) => wpl_X5_spend_7 K n9 x1 x2 x3 x4 a_sizes a_lengths a_credits a_totals n_waiting n_pointer n_granted) K (fun x1 x2 x3 x4 a_sizes a_lengths a_credits a_totals n_waiting n_pointer n_granted hw => ih x1 x2 x3 x4 a_sizes a_lengths a_credits a_totals n_waiting n_pointer n_granted hw) n8 x1 x2 x3 x4 0 a_sizes a_lengths g3 a_totals n_waiting n_pointer s4 hw
def wp_X5_spend (a_sizes : Nat → Int32) (a_lengths : Nat → Int32) (a_credits : Nat → Int32) (a_totals : Nat → Int32) (n_waiting : Int32) (n_pointer : Int32) (n_granted : Int32) (p1 : Int32) (K : Int32 → (Nat → Int32) → (Nat → Int32) → (Nat → Int32) → (Nat → Int32) → Int32 → Int32 → Int32 → Prop) : Prop := (∃ n8 : Nat, wpl_X5_spend_7 K n8 p1 p1 0 0 a_sizes a_lengths a_credits a_totals n_waiting n_pointer n_granted)
set_option maxRecDepth 100000 in
set_option maxHeartbeats 4000000 in
theorem ct_X5_spend (l : Launch) (E : EN) (h0 : Nat) (h1 : Nat) (h2 : Nat) (h3 : Nat) (h4 : Nat) (a_sizes : Nat → Int32) (a_lengths : Nat → Int32) (a_credits : Nat → Int32) (a_totals : Nat → Int32) (n_waiting : Int32) (n_pointer : Int32) (n_granted : Int32) (p1 : Int32) (K : Int32 → (Nat → Int32) → (Nat → Int32) → (Nat → Int32) → (Nat → Int32) → Int32 → Int32 → Int32 → Prop) (hw : wp_X5_spend a_sizes a_lengths a_credits a_totals n_waiting n_pointer n_granted p1 K) : Con l yX5_spend cX5_spend 7 (some .int) { frames := 1, cells := 0, slots := 0, locals := 23 } E [.ref h0, .int p1] [(h0, .inr (4, [.ref h1, .ref h2, .ref h3, .ref h4, .int n_waiting, .int n_pointer, .int n_granted])), (h1, .inl (E.2.1, 128, .inl a_sizes)), (h2, .inl (E.2.1, 16, .inl a_lengths)), (h3, .inl (E.2.1, 16, .inl a_credits)), (h4, .inl (E.2.1, 16, .inl a_totals))] (po_X5_spend E h0 h1 h2 h3 h4 K) := by
  refine Con.mk (by decide +kernel) (Nat.le_of_ble_eq_true rfl) ?_
  intro p e s m below meth c A hC hr hin
  have hC : Cx p s m _ meth c E A cX5_spend 7 "CookieServer$Service" := hC
  rw [wp_X5_spend] at hw
  refine V_cast [(0, .ref h0), (1, .int p1)] [] [(h0, .inr (4, [.ref h1, .ref h2, .ref h3, .ref h4, .int n_waiting, .int n_pointer, .int n_granted])), (h1, .inl (E.2.1, 128, .inl a_sizes)), (h2, .inl (E.2.1, 16, .inl a_lengths)), (h3, .inl (E.2.1, 16, .inl a_credits)), (h4, .inl (E.2.1, 16, .inl a_totals))] [0, 1] [0, 1, 2, 3, 4] rfl rfl rfl rfl ?_
  refine V_iload_n hC 1 rfl rfl dX5_spend_0 ?_
  refine V_istore_n hC [(2, .int p1), (0, .ref h0), (1, .int p1)] rfl (by decide) rfl dX5_spend_1 ?_
  refine V_iconst hC 0 dX5_spend_2 (by decide) ?_
  refine V_istore_n hC [(3, .int 0), (2, .int p1), (0, .ref h0), (1, .int p1)] rfl (by decide) rfl dX5_spend_3 ?_
  refine V_iconst hC 0 dX5_spend_4 (by decide) ?_
  refine V_istore hC [(4, .int 0), (3, .int 0), (2, .int p1), (0, .ref h0), (1, .int p1)] (by decide) rfl dX5_spend_5 ?_
  refine V_cast [(0, .ref h0), (1, .int p1), (2, .int p1), (3, .int 0), (4, .int 0)] [] [(h0, .inr (4, [.ref h1, .ref h2, .ref h3, .ref h4, .int n_waiting, .int n_pointer, .int n_granted])), (h1, .inl (E.2.1, 128, .inl a_sizes)), (h2, .inl (E.2.1, 16, .inl a_lengths)), (h3, .inl (E.2.1, 16, .inl a_credits)), (h4, .inl (E.2.1, 16, .inl a_totals))] [3, 4, 2, 1, 0] [0, 1, 2, 3, 4] rfl rfl rfl rfl ?_
  obtain ⟨n8, hw⟩ := hw
  exact bl_X5_spend_7 hC hr h0 h1 h2 h3 h4 K n8 p1 p1 0 0 a_sizes a_lengths a_credits a_totals n_waiting n_pointer n_granted hw
abbrev po_X5_totalOfAll (E : EN) (h0 : Nat) (h1 : Nat) (h2 : Nat) (h3 : Nat) (h4 : Nat) (a_sizes : Nat → Int32) (a_lengths : Nat → Int32) (a_credits : Nat → Int32) (a_totals : Nat → Int32) (n_waiting : Int32) (n_pointer : Int32) (n_granted : Int32) (K : Int32 → Prop) : Option Value → va_W → Prop := fun v ws' => ∃ (r0 : Int32), v = some (.int r0) ∧ ws' = [(h0, .inr (4, [.ref h1, .ref h2, .ref h3, .ref h4, .int n_waiting, .int n_pointer, .int n_granted])), (h1, .inl (E.2.1, 128, .inl a_sizes)), (h2, .inl (E.2.1, 16, .inl a_lengths)), (h3, .inl (E.2.1, 16, .inl a_credits)), (h4, .inl (E.2.1, 16, .inl a_totals))] ∧ K r0
def wpl_X5_totalOfAll_4 (a_sizes : Nat → Int32) (a_lengths : Nat → Int32) (a_credits : Nat → Int32) (a_totals : Nat → Int32) (n_waiting : Int32) (n_pointer : Int32) (n_granted : Int32) (K : Int32 → Prop) : Nat → Int32 → Int32 → Prop
  | 0, _, _ => False
  | n9 + 1, x1, x2 => ((16 ≤ x2 → K x1) ∧ (¬ (16 ≤ x2) → (vp_in x2 16 ∧ wpl_X5_totalOfAll_4 a_sizes a_lengths a_credits a_totals n_waiting n_pointer n_granted K n9 (x1 + (a_totals (Int32.toNatClampNeg x2))) (x2 + 1))))
set_option maxRecDepth 100000 in
set_option maxHeartbeats 4000000 in
theorem bl_X5_totalOfAll_4 {p : Program} {l : Launch} {e : Env} {s : State} {m : MethodId} {args : Array Value} {below : List Frame} {meth : Method} {c : Code} {E : EN} {A : Nat → Prop} (hC : Cx p s m args meth c E A cX5_totalOfAll 3 "CookieServer$Service") (hr : meth.sig.returnType = some .int) (h0 : Nat) (h1 : Nat) (h2 : Nat) (h3 : Nat) (h4 : Nat) (a_sizes : Nat → Int32) (a_lengths : Nat → Int32) (a_credits : Nat → Int32) (a_totals : Nat → Int32) (n_waiting : Int32) (n_pointer : Int32) (n_granted : Int32) (K : Int32 → Prop) : ∀ (n8 : Nat) (x1 : Int32) (x2 : Int32), wpl_X5_totalOfAll_4 a_sizes a_lengths a_credits a_totals n_waiting n_pointer n_granted K n8 x1 x2 → V p l e { frames := 0, cells := 0, slots := 0, locals := 0 } s m args below meth c E A 3 0 0 (MQ below (QP E (po_X5_totalOfAll E h0 h1 h2 h3 h4 a_sizes a_lengths a_credits a_totals n_waiting n_pointer n_granted K) A) args s 0 0 A) 4 [(0, .ref h0), (1, .int x1), (2, .int x2)] [] [(h0, .inr (4, [.ref h1, .ref h2, .ref h3, .ref h4, .int n_waiting, .int n_pointer, .int n_granted])), (h1, .inl (E.2.1, 128, .inl a_sizes)), (h2, .inl (E.2.1, 16, .inl a_lengths)), (h3, .inl (E.2.1, 16, .inl a_credits)), (h4, .inl (E.2.1, 16, .inl a_totals))] := by
  intro n8
  induction n8 with
  | zero => intro x1 x2 hw; rw [wpl_X5_totalOfAll_4] at hw; exact hw.elim
  | succ n9 ih =>
    intro x1 x2 hw
    rw [wpl_X5_totalOfAll_4] at hw
    refine V_iload_n hC 2 rfl rfl dX5_totalOfAll_4 ?_
    refine V_bipush hC 16 dX5_totalOfAll_5 (by decide) ?_
    refine V_icmp_ge hC 25 (by decide) dX5_totalOfAll_7 (fun c1 => ?_) (fun c1 => ?_)
    · have hw := hw.1 c1
      refine V_iload_n hC 1 rfl rfl dX5_totalOfAll_25 ?_
      exact V_iret hC hr ⟨x1, rfl, rfl, hw⟩ dX5_totalOfAll_26
    · have hw := hw.2 c1
      refine V_iload_n hC 1 rfl rfl dX5_totalOfAll_10 ?_
      refine V_aload_n hC 0 rfl rfl dX5_totalOfAll_11 ?_
      refine V_get hC inX5 rfl 3 (by decide) wd_131 0 rfl rfl dX5_totalOfAll_12 ?_
      refine V_iload_n hC 2 rfl rfl dX5_totalOfAll_15 ?_
      refine V_iald hC _ rfl 4 rfl hw.1 dX5_totalOfAll_16 ?_
      have hw := hw.2
      refine V_iadd hC dX5_totalOfAll_17 ?_
      refine V_istore_n hC [(1, .int (x1 + (a_totals (Int32.toNatClampNeg x2)))), (0, .ref h0), (2, .int x2)] rfl (by decide) rfl dX5_totalOfAll_18 ?_
      refine V_iinc hC (x2 + 1) 2 [(2, .int (x2 + 1)), (1, .int (x1 + (a_totals (Int32.toNatClampNeg x2)))), (0, .ref h0)] rfl (congrArg (fun z => x2 + z) (by decide : Int32.ofInt (1) = (1 : Int32))) (by decide) rfl dX5_totalOfAll_19 ?_
      refine V_goto hC 4 (by decide) dX5_totalOfAll_22 ?_
      refine V_cast [(0, .ref h0), (1, .int (x1 + (a_totals (Int32.toNatClampNeg x2)))), (2, .int (x2 + 1))] [] [(h0, .inr (4, [.ref h1, .ref h2, .ref h3, .ref h4, .int n_waiting, .int n_pointer, .int n_granted])), (h1, .inl (E.2.1, 128, .inl a_sizes)), (h2, .inl (E.2.1, 16, .inl a_lengths)), (h3, .inl (E.2.1, 16, .inl a_credits)), (h4, .inl (E.2.1, 16, .inl a_totals))] [2, 1, 0] [0, 1, 2, 3, 4] rfl rfl rfl rfl ?_
      exact ih (x1 + (a_totals (Int32.toNatClampNeg x2))) (x2 + 1) hw
def wp_X5_totalOfAll (a_sizes : Nat → Int32) (a_lengths : Nat → Int32) (a_credits : Nat → Int32) (a_totals : Nat → Int32) (n_waiting : Int32) (n_pointer : Int32) (n_granted : Int32) (K : Int32 → Prop) : Prop := (∃ n8 : Nat, wpl_X5_totalOfAll_4 a_sizes a_lengths a_credits a_totals n_waiting n_pointer n_granted K n8 0 0)
set_option maxRecDepth 100000 in
set_option maxHeartbeats 4000000 in
theorem ct_X5_totalOfAll (l : Launch) (E : EN) (h0 : Nat) (h1 : Nat) (h2 : Nat) (h3 : Nat) (h4 : Nat) (a_sizes : Nat → Int32) (a_lengths : Nat → Int32) (a_credits : Nat → Int32) (a_totals : Nat → Int32) (n_waiting : Int32) (n_pointer : Int32) (n_granted : Int32) (K : Int32 → Prop) (hw : wp_X5_totalOfAll a_sizes a_lengths a_credits a_totals n_waiting n_pointer n_granted K) : Con l yX5_totalOfAll cX5_totalOfAll 3 (some .int) { frames := 0, cells := 0, slots := 0, locals := 0 } E [.ref h0] [(h0, .inr (4, [.ref h1, .ref h2, .ref h3, .ref h4, .int n_waiting, .int n_pointer, .int n_granted])), (h1, .inl (E.2.1, 128, .inl a_sizes)), (h2, .inl (E.2.1, 16, .inl a_lengths)), (h3, .inl (E.2.1, 16, .inl a_credits)), (h4, .inl (E.2.1, 16, .inl a_totals))] (po_X5_totalOfAll E h0 h1 h2 h3 h4 a_sizes a_lengths a_credits a_totals n_waiting n_pointer n_granted K) := by
  refine Con.mk (by decide +kernel) (Nat.le_of_ble_eq_true rfl) ?_
  intro p e s m below meth c A hC hr hin
  have hC : Cx p s m _ meth c E A cX5_totalOfAll 3 "CookieServer$Service" := hC
  rw [wp_X5_totalOfAll] at hw
  refine V_cast [(0, .ref h0)] [] [(h0, .inr (4, [.ref h1, .ref h2, .ref h3, .ref h4, .int n_waiting, .int n_pointer, .int n_granted])), (h1, .inl (E.2.1, 128, .inl a_sizes)), (h2, .inl (E.2.1, 16, .inl a_lengths)), (h3, .inl (E.2.1, 16, .inl a_credits)), (h4, .inl (E.2.1, 16, .inl a_totals))] [0] [0, 1, 2, 3, 4] rfl rfl rfl rfl ?_
  refine V_iconst hC 0 dX5_totalOfAll_0 (by decide) ?_
  refine V_istore_n hC [(1, .int 0), (0, .ref h0)] rfl (by decide) rfl dX5_totalOfAll_1 ?_
  refine V_iconst hC 0 dX5_totalOfAll_2 (by decide) ?_
  refine V_istore_n hC [(2, .int 0), (1, .int 0), (0, .ref h0)] rfl (by decide) rfl dX5_totalOfAll_3 ?_
  refine V_cast [(0, .ref h0), (1, .int 0), (2, .int 0)] [] [(h0, .inr (4, [.ref h1, .ref h2, .ref h3, .ref h4, .int n_waiting, .int n_pointer, .int n_granted])), (h1, .inl (E.2.1, 128, .inl a_sizes)), (h2, .inl (E.2.1, 16, .inl a_lengths)), (h3, .inl (E.2.1, 16, .inl a_credits)), (h4, .inl (E.2.1, 16, .inl a_totals))] [2, 1, 0] [0, 1, 2, 3, 4] rfl rfl rfl rfl ?_
  obtain ⟨n8, hw⟩ := hw
  exact bl_X5_totalOfAll_4 hC hr h0 h1 h2 h3 h4 a_sizes a_lengths a_credits a_totals n_waiting n_pointer n_granted K n8 0 0 hw
abbrev po_X5_mixInto (E : EN) (h0 : Nat) (h1 : Nat) (h2 : Nat) (h3 : Nat) (h4 : Nat) (a_sizes : Nat → Int32) (a_lengths : Nat → Int32) (a_credits : Nat → Int32) (a_totals : Nat → Int32) (n_waiting : Int32) (n_pointer : Int32) (n_granted : Int32) (K : Int64 → Prop) : Option Value → va_W → Prop := fun v ws' => ∃ (r0 : Int64), v = some (.long r0) ∧ ws' = [(h0, .inr (4, [.ref h1, .ref h2, .ref h3, .ref h4, .int n_waiting, .int n_pointer, .int n_granted])), (h1, .inl (E.2.1, 128, .inl a_sizes)), (h2, .inl (E.2.1, 16, .inl a_lengths)), (h3, .inl (E.2.1, 16, .inl a_credits)), (h4, .inl (E.2.1, 16, .inl a_totals))] ∧ K r0
def wpl_X5_mixInto_36 (a_sizes : Nat → Int32) (a_lengths : Nat → Int32) (a_credits : Nat → Int32) (a_totals : Nat → Int32) (n_waiting : Int32) (n_pointer : Int32) (n_granted : Int32) (J13 : Int64 → Int64 → Int32 → Prop) (K : Int64 → Prop) : Nat → Int64 → Int64 → Int32 → Int32 → Prop
  | 0, _, _, _, _ => False
  | n9 + 1, x1, x3, x5, x6 => (vp_in x5 16 ∧ (((a_lengths (Int32.toNatClampNeg x5)) ≤ x6 → (vp_in x5 16 ∧ (wp_X8_mix x3 (Int32.toInt64 (a_credits (Int32.toNatClampNeg x5))) (fun (r5 : Int64) => (vp_in x5 16 ∧ (wp_X8_mix r5 (Int32.toInt64 (a_totals (Int32.toNatClampNeg x5))) (fun (r6 : Int64) => J13 x1 r6 (x5 + 1)))))))) ∧ (¬ ((a_lengths (Int32.toNatClampNeg x5)) ≤ x6) → (vp_in ((x5 * 8) + x6) 128 ∧ (wp_X8_mix x3 (Int32.toInt64 (a_sizes (Int32.toNatClampNeg ((x5 * 8) + x6)))) (fun (r7 : Int64) => wpl_X5_mixInto_36 a_sizes a_lengths a_credits a_totals n_waiting n_pointer n_granted J13 K n9 x1 r7 x5 (x6 + 1)))))))
set_option maxRecDepth 100000 in
set_option maxHeartbeats 4000000 in
theorem bl_X5_mixInto_36 {p : Program} {l : Launch} {e : Env} {s : State} {m : MethodId} {args : Array Value} {below : List Frame} {meth : Method} {c : Code} {E : EN} {A : Nat → Prop} (hC : Cx p s m args meth c E A cX5_mixInto 7 "CookieServer$Service") (hr : meth.sig.returnType = some .long) (h0 : Nat) (h1 : Nat) (h2 : Nat) (h3 : Nat) (h4 : Nat) (a_sizes : Nat → Int32) (a_lengths : Nat → Int32) (a_credits : Nat → Int32) (a_totals : Nat → Int32) (n_waiting : Int32) (n_pointer : Int32) (n_granted : Int32) (J13 : Int64 → Int64 → Int32 → Prop) (K : Int64 → Prop) (hJ13 : ∀ (x1 : Int64) (x3 : Int64) (x5 : Int32), J13 x1 x3 x5 → V p l e { frames := 1, cells := 0, slots := 0, locals := 23 } s m args below meth c E A 7 0 0 (MQ below (QP E (po_X5_mixInto E h0 h1 h2 h3 h4 a_sizes a_lengths a_credits a_totals n_waiting n_pointer n_granted K) A) args s 0 0 A) 13 [(0, .ref h0), (1, .long x1), (3, .long x3), (5, .int x5)] [] [(h0, .inr (4, [.ref h1, .ref h2, .ref h3, .ref h4, .int n_waiting, .int n_pointer, .int n_granted])), (h1, .inl (E.2.1, 128, .inl a_sizes)), (h2, .inl (E.2.1, 16, .inl a_lengths)), (h3, .inl (E.2.1, 16, .inl a_credits)), (h4, .inl (E.2.1, 16, .inl a_totals))]) : ∀ (n8 : Nat) (x1 : Int64) (x3 : Int64) (x5 : Int32) (x6 : Int32), wpl_X5_mixInto_36 a_sizes a_lengths a_credits a_totals n_waiting n_pointer n_granted J13 K n8 x1 x3 x5 x6 → V p l e { frames := 1, cells := 0, slots := 0, locals := 23 } s m args below meth c E A 7 0 0 (MQ below (QP E (po_X5_mixInto E h0 h1 h2 h3 h4 a_sizes a_lengths a_credits a_totals n_waiting n_pointer n_granted K) A) args s 0 0 A) 36 [(0, .ref h0), (1, .long x1), (3, .long x3), (5, .int x5), (6, .int x6)] [] [(h0, .inr (4, [.ref h1, .ref h2, .ref h3, .ref h4, .int n_waiting, .int n_pointer, .int n_granted])), (h1, .inl (E.2.1, 128, .inl a_sizes)), (h2, .inl (E.2.1, 16, .inl a_lengths)), (h3, .inl (E.2.1, 16, .inl a_credits)), (h4, .inl (E.2.1, 16, .inl a_totals))] := by
  intro n8
  induction n8 with
  | zero => intro x1 x3 x5 x6 hw; rw [wpl_X5_mixInto_36] at hw; exact hw.elim
  | succ n9 ih =>
    intro x1 x3 x5 x6 hw
    rw [wpl_X5_mixInto_36] at hw
    refine V_iload hC 4 rfl dX5_mixInto_36 ?_
    refine V_aload_n hC 0 rfl rfl dX5_mixInto_38 ?_
    refine V_get hC inX5 rfl 1 (by decide) wd_127 0 rfl rfl dX5_mixInto_39 ?_
    refine V_iload hC 3 rfl dX5_mixInto_42 ?_
    refine V_iald hC _ rfl 2 rfl hw.1 dX5_mixInto_44 ?_
    have hw := hw.2
    refine V_icmp_ge hC 73 (by decide) dX5_mixInto_45 (fun c4 => ?_) (fun c4 => ?_)
    · have hw := hw.1 c4
      refine V_lload_n hC 2 rfl rfl dX5_mixInto_73 ?_
      refine V_aload_n hC 0 rfl rfl dX5_mixInto_74 ?_
      refine V_get hC inX5 rfl 2 (by decide) wd_129 0 rfl rfl dX5_mixInto_75 ?_
      refine V_iload hC 3 rfl dX5_mixInto_78 ?_
      refine V_iald hC _ rfl 3 rfl hw.1 dX5_mixInto_80 ?_
      have hw := hw.2
      refine V_i2l hC dX5_mixInto_81 ?_
      refine V_callSN hC (wr := [(h0, .inr (4, [.ref h1, .ref h2, .ref h3, .ref h4, .int n_waiting, .int n_pointer, .int n_granted])), (h1, .inl (E.2.1, 128, .inl a_sizes)), (h2, .inl (E.2.1, 16, .inl a_lengths)), (h3, .inl (E.2.1, 16, .inl a_credits)), (h4, .inl (E.2.1, 16, .inl a_totals))]) 2 [.long x3, .long (Int32.toInt64 (a_credits (Int32.toNatClampNeg x5)))] [] (ct_X8_mix l E x3 (Int32.toInt64 (a_credits (Int32.toNatClampNeg x5))) _ hw) wd_577 wd_32 wd_604 wd_576 (by decide +kernel) rfl ⟨Nat.le_of_ble_eq_true rfl, Nat.le_of_ble_eq_true rfl⟩ [] [0, 1, 2, 3, 4] rfl rfl rfl rfl (by decide) rfl (Nat.le_of_ble_eq_true rfl) ⟨Nat.le_of_ble_eq_true rfl, Nat.le_of_ble_eq_true rfl⟩ dX5_mixInto_82 (fun v ws' hp => ?_)
      obtain ⟨r5, rfl, rfl, hw⟩ := hp
      refine V_cast [(0, .ref h0), (1, .long x1), (3, .long x3), (5, .int x5), (6, .int x6)] [.long r5] [(h0, .inr (4, [.ref h1, .ref h2, .ref h3, .ref h4, .int n_waiting, .int n_pointer, .int n_granted])), (h1, .inl (E.2.1, 128, .inl a_sizes)), (h2, .inl (E.2.1, 16, .inl a_lengths)), (h3, .inl (E.2.1, 16, .inl a_credits)), (h4, .inl (E.2.1, 16, .inl a_totals))] [0, 1, 2, 3, 4] [0, 1, 2, 3, 4] rfl rfl rfl rfl ?_
      refine V_lstore_n hC [(3, .long r5), (0, .ref h0), (1, .long x1), (5, .int x5), (6, .int x6)] rfl (by decide) rfl dX5_mixInto_85 ?_
      refine V_lload_n hC 0 rfl rfl dX5_mixInto_86 ?_
      refine V_aload_n hC 1 rfl rfl dX5_mixInto_87 ?_
      refine V_get hC inX5 rfl 3 (by decide) wd_131 0 rfl rfl dX5_mixInto_88 ?_
      refine V_iload hC 3 rfl dX5_mixInto_91 ?_
      refine V_iald hC _ rfl 4 rfl hw.1 dX5_mixInto_93 ?_
      have hw := hw.2
      refine V_i2l hC dX5_mixInto_94 ?_
      refine V_callSN hC (wr := [(h0, .inr (4, [.ref h1, .ref h2, .ref h3, .ref h4, .int n_waiting, .int n_pointer, .int n_granted])), (h1, .inl (E.2.1, 128, .inl a_sizes)), (h2, .inl (E.2.1, 16, .inl a_lengths)), (h3, .inl (E.2.1, 16, .inl a_credits)), (h4, .inl (E.2.1, 16, .inl a_totals))]) 2 [.long r5, .long (Int32.toInt64 (a_totals (Int32.toNatClampNeg x5)))] [] (ct_X8_mix l E r5 (Int32.toInt64 (a_totals (Int32.toNatClampNeg x5))) _ hw) wd_577 wd_32 wd_604 wd_576 (by decide +kernel) rfl ⟨Nat.le_of_ble_eq_true rfl, Nat.le_of_ble_eq_true rfl⟩ [] [0, 1, 2, 3, 4] rfl rfl rfl rfl (by decide) rfl (Nat.le_of_ble_eq_true rfl) ⟨Nat.le_of_ble_eq_true rfl, Nat.le_of_ble_eq_true rfl⟩ dX5_mixInto_95 (fun v ws' hp => ?_)
      obtain ⟨r6, rfl, rfl, hw⟩ := hp
      refine V_cast [(3, .long r5), (0, .ref h0), (1, .long x1), (5, .int x5), (6, .int x6)] [.long r6] [(h0, .inr (4, [.ref h1, .ref h2, .ref h3, .ref h4, .int n_waiting, .int n_pointer, .int n_granted])), (h1, .inl (E.2.1, 128, .inl a_sizes)), (h2, .inl (E.2.1, 16, .inl a_lengths)), (h3, .inl (E.2.1, 16, .inl a_credits)), (h4, .inl (E.2.1, 16, .inl a_totals))] [0, 1, 2, 3, 4] [0, 1, 2, 3, 4] rfl rfl rfl rfl ?_
      refine V_lstore_n hC [(3, .long r6), (0, .ref h0), (1, .long x1), (5, .int x5), (6, .int x6)] rfl (by decide) rfl dX5_mixInto_98 ?_
      refine V_iinc hC (x5 + 1) 3 [(5, .int (x5 + 1)), (3, .long r6), (0, .ref h0), (1, .long x1), (6, .int x6)] rfl (congrArg (fun z => x5 + z) (by decide : Int32.ofInt (1) = (1 : Int32))) (by decide) rfl dX5_mixInto_99 ?_
      refine V_goto hC 13 (by decide) dX5_mixInto_102 ?_
      refine V_cast [(0, .ref h0), (1, .long x1), (3, .long r6), (5, .int (x5 + 1))] [] [(h0, .inr (4, [.ref h1, .ref h2, .ref h3, .ref h4, .int n_waiting, .int n_pointer, .int n_granted])), (h1, .inl (E.2.1, 128, .inl a_sizes)), (h2, .inl (E.2.1, 16, .inl a_lengths)), (h3, .inl (E.2.1, 16, .inl a_credits)), (h4, .inl (E.2.1, 16, .inl a_totals))] [2, 3, 1, 0] [0, 1, 2, 3, 4] rfl rfl rfl rfl ?_
      exact hJ13 x1 r6 (x5 + 1) hw
    · have hw := hw.2 c4
      refine V_lload_n hC 2 rfl rfl dX5_mixInto_48 ?_
      refine V_aload_n hC 0 rfl rfl dX5_mixInto_49 ?_
      refine V_get hC inX5 rfl 0 (by decide) wd_126 0 rfl rfl dX5_mixInto_50 ?_
      refine V_iload hC 3 rfl dX5_mixInto_53 ?_
      refine V_bipush hC 8 dX5_mixInto_55 (by decide) ?_
      refine V_imul hC dX5_mixInto_57 ?_
      refine V_iload hC 4 rfl dX5_mixInto_58 ?_
      refine V_iadd hC dX5_mixInto_60 ?_
      refine V_iald hC _ rfl 1 rfl hw.1 dX5_mixInto_61 ?_
      have hw := hw.2
      refine V_i2l hC dX5_mixInto_62 ?_
      refine V_callSN hC (wr := [(h0, .inr (4, [.ref h1, .ref h2, .ref h3, .ref h4, .int n_waiting, .int n_pointer, .int n_granted])), (h1, .inl (E.2.1, 128, .inl a_sizes)), (h2, .inl (E.2.1, 16, .inl a_lengths)), (h3, .inl (E.2.1, 16, .inl a_credits)), (h4, .inl (E.2.1, 16, .inl a_totals))]) 2 [.long x3, .long (Int32.toInt64 (a_sizes (Int32.toNatClampNeg ((x5 * 8) + x6))))] [] (ct_X8_mix l E x3 (Int32.toInt64 (a_sizes (Int32.toNatClampNeg ((x5 * 8) + x6)))) _ hw) wd_577 wd_32 wd_604 wd_576 (by decide +kernel) rfl ⟨Nat.le_of_ble_eq_true rfl, Nat.le_of_ble_eq_true rfl⟩ [] [0, 1, 2, 3, 4] rfl rfl rfl rfl (by decide) rfl (Nat.le_of_ble_eq_true rfl) ⟨Nat.le_of_ble_eq_true rfl, Nat.le_of_ble_eq_true rfl⟩ dX5_mixInto_63 (fun v ws' hp => ?_)
      obtain ⟨r7, rfl, rfl, hw⟩ := hp
      refine V_cast [(0, .ref h0), (1, .long x1), (3, .long x3), (5, .int x5), (6, .int x6)] [.long r7] [(h0, .inr (4, [.ref h1, .ref h2, .ref h3, .ref h4, .int n_waiting, .int n_pointer, .int n_granted])), (h1, .inl (E.2.1, 128, .inl a_sizes)), (h2, .inl (E.2.1, 16, .inl a_lengths)), (h3, .inl (E.2.1, 16, .inl a_credits)), (h4, .inl (E.2.1, 16, .inl a_totals))] [0, 1, 2, 3, 4] [0, 1, 2, 3, 4] rfl rfl rfl rfl ?_
      refine V_lstore_n hC [(3, .long r7), (0, .ref h0), (1, .long x1), (5, .int x5), (6, .int x6)] rfl (by decide) rfl dX5_mixInto_66 ?_
      refine V_iinc hC (x6 + 1) 4 [(6, .int (x6 + 1)), (3, .long r7), (0, .ref h0), (1, .long x1), (5, .int x5)] rfl (congrArg (fun z => x6 + z) (by decide : Int32.ofInt (1) = (1 : Int32))) (by decide) rfl dX5_mixInto_67 ?_
      refine V_goto hC 36 (by decide) dX5_mixInto_70 ?_
      refine V_cast [(0, .ref h0), (1, .long x1), (3, .long r7), (5, .int x5), (6, .int (x6 + 1))] [] [(h0, .inr (4, [.ref h1, .ref h2, .ref h3, .ref h4, .int n_waiting, .int n_pointer, .int n_granted])), (h1, .inl (E.2.1, 128, .inl a_sizes)), (h2, .inl (E.2.1, 16, .inl a_lengths)), (h3, .inl (E.2.1, 16, .inl a_credits)), (h4, .inl (E.2.1, 16, .inl a_totals))] [2, 3, 1, 4, 0] [0, 1, 2, 3, 4] rfl rfl rfl rfl ?_
      exact ih x1 r7 x5 (x6 + 1) hw
def wpl_X5_mixInto_13 (a_sizes : Nat → Int32) (a_lengths : Nat → Int32) (a_credits : Nat → Int32) (a_totals : Nat → Int32) (n_waiting : Int32) (n_pointer : Int32) (n_granted : Int32) (K : Int64 → Prop) : Nat → Int64 → Int64 → Int32 → Prop
  | 0, _, _, _ => False
  | n9 + 1, x1, x3, x5 => ((16 ≤ x5 → K x3) ∧ (¬ (16 ≤ x5) → (vp_in x5 16 ∧ (wp_X8_mix x3 (Int32.toInt64 (a_lengths (Int32.toNatClampNeg x5))) (fun (r3 : Int64) => (∃ n8 : Nat, wpl_X5_mixInto_36 a_sizes a_lengths a_credits a_totals n_waiting n_pointer n_granted (fun (x1 : Int64) (x3 : Int64) (x5 : Int32) => wpl_X5_mixInto_13 a_sizes a_lengths a_credits a_totals n_waiting n_pointer n_granted K n9 x1 x3 x5) K n8 x1 r3 x5 0))))))
set_option maxRecDepth 100000 in
set_option maxHeartbeats 4000000 in
theorem bl_X5_mixInto_13 {p : Program} {l : Launch} {e : Env} {s : State} {m : MethodId} {args : Array Value} {below : List Frame} {meth : Method} {c : Code} {E : EN} {A : Nat → Prop} (hC : Cx p s m args meth c E A cX5_mixInto 7 "CookieServer$Service") (hr : meth.sig.returnType = some .long) (h0 : Nat) (h1 : Nat) (h2 : Nat) (h3 : Nat) (h4 : Nat) (a_sizes : Nat → Int32) (a_lengths : Nat → Int32) (a_credits : Nat → Int32) (a_totals : Nat → Int32) (n_waiting : Int32) (n_pointer : Int32) (n_granted : Int32) (K : Int64 → Prop) : ∀ (n8 : Nat) (x1 : Int64) (x3 : Int64) (x5 : Int32), wpl_X5_mixInto_13 a_sizes a_lengths a_credits a_totals n_waiting n_pointer n_granted K n8 x1 x3 x5 → V p l e { frames := 1, cells := 0, slots := 0, locals := 23 } s m args below meth c E A 7 0 0 (MQ below (QP E (po_X5_mixInto E h0 h1 h2 h3 h4 a_sizes a_lengths a_credits a_totals n_waiting n_pointer n_granted K) A) args s 0 0 A) 13 [(0, .ref h0), (1, .long x1), (3, .long x3), (5, .int x5)] [] [(h0, .inr (4, [.ref h1, .ref h2, .ref h3, .ref h4, .int n_waiting, .int n_pointer, .int n_granted])), (h1, .inl (E.2.1, 128, .inl a_sizes)), (h2, .inl (E.2.1, 16, .inl a_lengths)), (h3, .inl (E.2.1, 16, .inl a_credits)), (h4, .inl (E.2.1, 16, .inl a_totals))] := by
  intro n8
  induction n8 with
  | zero => intro x1 x3 x5 hw; rw [wpl_X5_mixInto_13] at hw; exact hw.elim
  | succ n9 ih =>
    intro x1 x3 x5 hw
    rw [wpl_X5_mixInto_13] at hw
    refine V_iload hC 3 rfl dX5_mixInto_13 ?_
    refine V_bipush hC 16 dX5_mixInto_15 (by decide) ?_
    refine V_icmp_ge hC 105 (by decide) dX5_mixInto_17 (fun c2 => ?_) (fun c2 => ?_)
    · have hw := hw.1 c2
      refine V_lload_n hC 2 rfl rfl dX5_mixInto_105 ?_
      exact V_lret hC hr ⟨x3, rfl, rfl, hw⟩ dX5_mixInto_106
    · have hw := hw.2 c2
      refine V_lload_n hC 2 rfl rfl dX5_mixInto_20 ?_
      refine V_aload_n hC 0 rfl rfl dX5_mixInto_21 ?_
      refine V_get hC inX5 rfl 1 (by decide) wd_127 0 rfl rfl dX5_mixInto_22 ?_
      refine V_iload hC 3 rfl dX5_mixInto_25 ?_
      refine V_iald hC _ rfl 2 rfl hw.1 dX5_mixInto_27 ?_
      have hw := hw.2
      refine V_i2l hC dX5_mixInto_28 ?_
      refine V_callSN hC (wr := [(h0, .inr (4, [.ref h1, .ref h2, .ref h3, .ref h4, .int n_waiting, .int n_pointer, .int n_granted])), (h1, .inl (E.2.1, 128, .inl a_sizes)), (h2, .inl (E.2.1, 16, .inl a_lengths)), (h3, .inl (E.2.1, 16, .inl a_credits)), (h4, .inl (E.2.1, 16, .inl a_totals))]) 2 [.long x3, .long (Int32.toInt64 (a_lengths (Int32.toNatClampNeg x5)))] [] (ct_X8_mix l E x3 (Int32.toInt64 (a_lengths (Int32.toNatClampNeg x5))) _ hw) wd_577 wd_32 wd_604 wd_576 (by decide +kernel) rfl ⟨Nat.le_of_ble_eq_true rfl, Nat.le_of_ble_eq_true rfl⟩ [] [0, 1, 2, 3, 4] rfl rfl rfl rfl (by decide) rfl (Nat.le_of_ble_eq_true rfl) ⟨Nat.le_of_ble_eq_true rfl, Nat.le_of_ble_eq_true rfl⟩ dX5_mixInto_29 (fun v ws' hp => ?_)
      obtain ⟨r3, rfl, rfl, hw⟩ := hp
      refine V_cast [(0, .ref h0), (1, .long x1), (3, .long x3), (5, .int x5)] [.long r3] [(h0, .inr (4, [.ref h1, .ref h2, .ref h3, .ref h4, .int n_waiting, .int n_pointer, .int n_granted])), (h1, .inl (E.2.1, 128, .inl a_sizes)), (h2, .inl (E.2.1, 16, .inl a_lengths)), (h3, .inl (E.2.1, 16, .inl a_credits)), (h4, .inl (E.2.1, 16, .inl a_totals))] [0, 1, 2, 3] [0, 1, 2, 3, 4] rfl rfl rfl rfl ?_
      refine V_lstore_n hC [(3, .long r3), (0, .ref h0), (1, .long x1), (5, .int x5)] rfl (by decide) rfl dX5_mixInto_32 ?_
      refine V_iconst hC 0 dX5_mixInto_33 (by decide) ?_
      refine V_istore hC [(6, .int 0), (3, .long r3), (0, .ref h0), (1, .long x1), (5, .int x5)] (by decide) rfl dX5_mixInto_34 ?_
      refine V_cast [(0, .ref h0), (1, .long x1), (3, .long r3), (5, .int x5), (6, .int 0)] [] [(h0, .inr (4, [.ref h1, .ref h2, .ref h3, .ref h4, .int n_waiting, .int n_pointer, .int n_granted])), (h1, .inl (E.2.1, 128, .inl a_sizes)), (h2, .inl (E.2.1, 16, .inl a_lengths)), (h3, .inl (E.2.1, 16, .inl a_credits)), (h4, .inl (E.2.1, 16, .inl a_totals))] [2, 3, 1, 4, 0] [0, 1, 2, 3, 4] rfl rfl rfl rfl ?_
      obtain ⟨n8, hw⟩ := hw
      exact bl_X5_mixInto_36 hC hr h0 h1 h2 h3 h4 a_sizes a_lengths a_credits a_totals n_waiting n_pointer n_granted (fun (x1 : Int64) (x3 : Int64) (x5 : Int32) => wpl_X5_mixInto_13 a_sizes a_lengths a_credits a_totals n_waiting n_pointer n_granted K n9 x1 x3 x5) K (fun x1 x3 x5 hw => ih x1 x3 x5 hw) n8 x1 r3 x5 0 hw
def wp_X5_mixInto (a_sizes : Nat → Int32) (a_lengths : Nat → Int32) (a_credits : Nat → Int32) (a_totals : Nat → Int32) (n_waiting : Int32) (n_pointer : Int32) (n_granted : Int32) (p1 : Int64) (K : Int64 → Prop) : Prop := (wp_X8_mix p1 (Int32.toInt64 n_pointer) (fun (r1 : Int64) => (∃ n8 : Nat, wpl_X5_mixInto_13 a_sizes a_lengths a_credits a_totals n_waiting n_pointer n_granted K n8 p1 r1 0)))
set_option maxRecDepth 100000 in
set_option maxHeartbeats 4000000 in
theorem ct_X5_mixInto (l : Launch) (E : EN) (h0 : Nat) (h1 : Nat) (h2 : Nat) (h3 : Nat) (h4 : Nat) (a_sizes : Nat → Int32) (a_lengths : Nat → Int32) (a_credits : Nat → Int32) (a_totals : Nat → Int32) (n_waiting : Int32) (n_pointer : Int32) (n_granted : Int32) (p1 : Int64) (K : Int64 → Prop) (hw : wp_X5_mixInto a_sizes a_lengths a_credits a_totals n_waiting n_pointer n_granted p1 K) : Con l yX5_mixInto cX5_mixInto 7 (some .long) { frames := 1, cells := 0, slots := 0, locals := 23 } E [.ref h0, .long p1] [(h0, .inr (4, [.ref h1, .ref h2, .ref h3, .ref h4, .int n_waiting, .int n_pointer, .int n_granted])), (h1, .inl (E.2.1, 128, .inl a_sizes)), (h2, .inl (E.2.1, 16, .inl a_lengths)), (h3, .inl (E.2.1, 16, .inl a_credits)), (h4, .inl (E.2.1, 16, .inl a_totals))] (po_X5_mixInto E h0 h1 h2 h3 h4 a_sizes a_lengths a_credits a_totals n_waiting n_pointer n_granted K) := by
  refine Con.mk (by decide +kernel) (Nat.le_of_ble_eq_true rfl) ?_
  intro p e s m below meth c A hC hr hin
  have hC : Cx p s m _ meth c E A cX5_mixInto 7 "CookieServer$Service" := hC
  rw [wp_X5_mixInto] at hw
  refine V_cast [(0, .ref h0), (1, .long p1)] [] [(h0, .inr (4, [.ref h1, .ref h2, .ref h3, .ref h4, .int n_waiting, .int n_pointer, .int n_granted])), (h1, .inl (E.2.1, 128, .inl a_sizes)), (h2, .inl (E.2.1, 16, .inl a_lengths)), (h3, .inl (E.2.1, 16, .inl a_credits)), (h4, .inl (E.2.1, 16, .inl a_totals))] [0, 1] [0, 1, 2, 3, 4] rfl rfl rfl rfl ?_
  refine V_lload_n hC 1 rfl rfl dX5_mixInto_0 ?_
  refine V_aload_n hC 0 rfl rfl dX5_mixInto_1 ?_
  refine V_get hC inX5 rfl 5 (by decide) wd_134 0 rfl rfl dX5_mixInto_2 ?_
  refine V_i2l hC dX5_mixInto_5 ?_
  refine V_callSN hC (wr := [(h0, .inr (4, [.ref h1, .ref h2, .ref h3, .ref h4, .int n_waiting, .int n_pointer, .int n_granted])), (h1, .inl (E.2.1, 128, .inl a_sizes)), (h2, .inl (E.2.1, 16, .inl a_lengths)), (h3, .inl (E.2.1, 16, .inl a_credits)), (h4, .inl (E.2.1, 16, .inl a_totals))]) 2 [.long p1, .long (Int32.toInt64 n_pointer)] [] (ct_X8_mix l E p1 (Int32.toInt64 n_pointer) _ hw) wd_577 wd_32 wd_604 wd_576 (by decide +kernel) rfl ⟨Nat.le_of_ble_eq_true rfl, Nat.le_of_ble_eq_true rfl⟩ [] [0, 1, 2, 3, 4] rfl rfl rfl rfl (by decide) rfl (Nat.le_of_ble_eq_true rfl) ⟨Nat.le_of_ble_eq_true rfl, Nat.le_of_ble_eq_true rfl⟩ dX5_mixInto_6 (fun v ws' hp => ?_)
  obtain ⟨r1, rfl, rfl, hw⟩ := hp
  refine V_cast [(0, .ref h0), (1, .long p1)] [.long r1] [(h0, .inr (4, [.ref h1, .ref h2, .ref h3, .ref h4, .int n_waiting, .int n_pointer, .int n_granted])), (h1, .inl (E.2.1, 128, .inl a_sizes)), (h2, .inl (E.2.1, 16, .inl a_lengths)), (h3, .inl (E.2.1, 16, .inl a_credits)), (h4, .inl (E.2.1, 16, .inl a_totals))] [0, 1] [0, 1, 2, 3, 4] rfl rfl rfl rfl ?_
  refine V_lstore_n hC [(3, .long r1), (0, .ref h0), (1, .long p1)] rfl (by decide) rfl dX5_mixInto_9 ?_
  refine V_iconst hC 0 dX5_mixInto_10 (by decide) ?_
  refine V_istore hC [(5, .int 0), (3, .long r1), (0, .ref h0), (1, .long p1)] (by decide) rfl dX5_mixInto_11 ?_
  refine V_cast [(0, .ref h0), (1, .long p1), (3, .long r1), (5, .int 0)] [] [(h0, .inr (4, [.ref h1, .ref h2, .ref h3, .ref h4, .int n_waiting, .int n_pointer, .int n_granted])), (h1, .inl (E.2.1, 128, .inl a_sizes)), (h2, .inl (E.2.1, 16, .inl a_lengths)), (h3, .inl (E.2.1, 16, .inl a_credits)), (h4, .inl (E.2.1, 16, .inl a_totals))] [2, 3, 1, 0] [0, 1, 2, 3, 4] rfl rfl rfl rfl ?_
  obtain ⟨n8, hw⟩ := hw
  exact bl_X5_mixInto_13 hC hr h0 h1 h2 h3 h4 a_sizes a_lengths a_credits a_totals n_waiting n_pointer n_granted K n8 p1 r1 0 hw
