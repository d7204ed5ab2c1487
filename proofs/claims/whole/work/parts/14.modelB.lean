abbrev po_X9_open (E : EN) (h0 : Nat) (h1 : Nat) (h2 : Nat) (h3 : Nat) (n_hash : Int64) (K : Int32 → (Nat → Int32) → (Nat → Int32) → Int32 → (Nat → Int32) → Prop) : Option Value → va_W → Prop := fun v ws' => ∃ (r0 : Int32) (a_now : Nat → Int32) (a_past : Nat → Int32) (n_saved : Int32) (a_errors : Nat → Int32), v = some (.int r0) ∧ ws' = [(h0, .inr (8, [.ref h1, .ref h2, .int n_saved, .ref h3, .long n_hash])), (h1, .inl (E.2.1, 404, .inl a_now)), (h2, .inl (E.2.1, 1212, .inl a_past)), (h3, .inl (E.2.1, 9, .inl a_errors))] ∧ K r0 a_now a_past n_saved a_errors
def wp_X9_open (a_now : Nat → Int32) (a_past : Nat → Int32) (n_saved : Int32) (a_errors : Nat → Int32) (n_hash : Int64) (p1 : Int32) (p2 : Int32) (p3 : Int32) (K : Int32 → (Nat → Int32) → (Nat → Int32) → Int32 → (Nat → Int32) → Prop) : Prop := (wp_X9_isPort p1 p2 (fun (r1 : Int32) => ((r1 = 0 → (wp_X9_fails a_now a_past n_saved a_errors n_hash (-2) (fun (r3 : Int32) (g4 : Nat → Int32) => K r3 a_now a_past n_saved g4))) ∧ (¬ (r1 = 0) → (wp_X9_within p3 64 9999 (fun (r5 : Int32) => ((¬ r5 = 0 → (wp_X9_isConnected a_now a_past n_saved a_errors n_hash p1 p2 (fun (r7 : Int32) => ((r7 = 0 → (wp_X9_saves a_now a_past n_saved a_errors n_hash (fun (g9 : Nat → Int32) (s10 : Int32) => (vp_in (8 + (jrem (a_now 0) 16)) 404 ∧ (vp_in (8 + (jrem (a_now 0) 16)) 404 ∧ (∀ f11 : Nat → Int32, f11 = upd a_now (Int32.toNatClampNeg (8 + (jrem (a_now 0) 16))) ((a_now (Int32.toNatClampNeg (8 + (jrem (a_now 0) 16)))) + 1) → (wp_X9_epochNow f11 g9 s10 a_errors n_hash (fun (r12 : Int32) => (wp_X9_indexOf p3 (fun (r13 : Int32) => (wp_X9_markOf p1 p2 (jrem r12 32) r13 (f11 1) (fun (r14 : Int32) => (wp_X9_entryOf f11 g9 s10 a_errors n_hash p1 p2 (fun (r15 : Int32) => ((¬ r15 = (-1) → ((r15 = (-1) → K (((32768 * (jrem r12 32)) + (4096 * r13)) + r14) f11 g9 s10 a_errors) ∧ (¬ (r15 = (-1)) → (vp_in (24 + (4 * r15)) 404 ∧ (∀ f18 : Nat → Int32, f18 = upd f11 (Int32.toNatClampNeg (24 + (4 * r15))) p1 → (vp_in ((24 + (4 * r15)) + 1) 404 ∧ (∀ f19 : Nat → Int32, f19 = upd f18 (Int32.toNatClampNeg ((24 + (4 * r15)) + 1)) p2 → (vp_in ((24 + (4 * r15)) + 2) 404 ∧ (∀ f20 : Nat → Int32, f20 = upd f19 (Int32.toNatClampNeg ((24 + (4 * r15)) + 2)) (((32768 * (jrem r12 32)) + (4096 * r13)) + r14) → (vp_in ((24 + (4 * r15)) + 3) 404 ∧ (∀ f21 : Nat → Int32, f21 = upd f20 (Int32.toNatClampNeg ((24 + (4 * r15)) + 3)) (f20 0) → K (((32768 * (jrem r12 32)) + (4096 * r13)) + r14) f21 g9 s10 a_errors))))))))))) ∧ (r15 = (-1) → (wp_X9_loadNow f11 g9 s10 a_errors n_hash (fun (r22 : Int32) => ((12 ≤ r22 → ((r15 = (-1) → K (((32768 * (jrem r12 32)) + (4096 * r13)) + r14) f11 g9 s10 a_errors) ∧ (¬ (r15 = (-1)) → (vp_in (24 + (4 * r15)) 404 ∧ (∀ f25 : Nat → Int32, f25 = upd f11 (Int32.toNatClampNeg (24 + (4 * r15))) p1 → (vp_in ((24 + (4 * r15)) + 1) 404 ∧ (∀ f26 : Nat → Int32, f26 = upd f25 (Int32.toNatClampNeg ((24 + (4 * r15)) + 1)) p2 → (vp_in ((24 + (4 * r15)) + 2) 404 ∧ (∀ f27 : Nat → Int32, f27 = upd f26 (Int32.toNatClampNeg ((24 + (4 * r15)) + 2)) (((32768 * (jrem r12 32)) + (4096 * r13)) + r14) → (vp_in ((24 + (4 * r15)) + 3) 404 ∧ (∀ f28 : Nat → Int32, f28 = upd f27 (Int32.toNatClampNeg ((24 + (4 * r15)) + 3)) (f27 0) → K (((32768 * (jrem r12 32)) + (4096 * r13)) + r14) f28 g9 s10 a_errors))))))))))) ∧ (¬ (12 ≤ r22) → ((4 ≤ (f11 3) → ((r15 = (-1) → K (((32768 * (jrem r12 32)) + (4096 * r13)) + r14) f11 g9 s10 a_errors) ∧ (¬ (r15 = (-1)) → (vp_in (24 + (4 * r15)) 404 ∧ (∀ f31 : Nat → Int32, f31 = upd f11 (Int32.toNatClampNeg (24 + (4 * r15))) p1 → (vp_in ((24 + (4 * r15)) + 1) 404 ∧ (∀ f32 : Nat → Int32, f32 = upd f31 (Int32.toNatClampNeg ((24 + (4 * r15)) + 1)) p2 → (vp_in ((24 + (4 * r15)) + 2) 404 ∧ (∀ f33 : Nat → Int32, f33 = upd f32 (Int32.toNatClampNeg ((24 + (4 * r15)) + 2)) (((32768 * (jrem r12 32)) + (4096 * r13)) + r14) → (vp_in ((24 + (4 * r15)) + 3) 404 ∧ (∀ f34 : Nat → Int32, f34 = upd f33 (Int32.toNatClampNeg ((24 + (4 * r15)) + 3)) (f33 0) → K (((32768 * (jrem r12 32)) + (4096 * r13)) + r14) f34 g9 s10 a_errors))))))))))) ∧ (¬ (4 ≤ (f11 3)) → (∀ f35 : Nat → Int32, f35 = upd f11 3 ((f11 3) + 1) → (((f11 3) = (-1) → K (((32768 * (jrem r12 32)) + (4096 * r13)) + r14) f35 g9 s10 a_errors) ∧ (¬ ((f11 3) = (-1)) → (vp_in (24 + (4 * (f11 3))) 404 ∧ (∀ f37 : Nat → Int32, f37 = upd f35 (Int32.toNatClampNeg (24 + (4 * (f11 3)))) p1 → (vp_in ((24 + (4 * (f11 3))) + 1) 404 ∧ (∀ f38 : Nat → Int32, f38 = upd f37 (Int32.toNatClampNeg ((24 + (4 * (f11 3))) + 1)) p2 → (vp_in ((24 + (4 * (f11 3))) + 2) 404 ∧ (∀ f39 : Nat → Int32, f39 = upd f38 (Int32.toNatClampNeg ((24 + (4 * (f11 3))) + 2)) (((32768 * (jrem r12 32)) + (4096 * r13)) + r14) → (vp_in ((24 + (4 * (f11 3))) + 3) 404 ∧ (∀ f40 : Nat → Int32, f40 = upd f39 (Int32.toNatClampNeg ((24 + (4 * (f11 3))) + 3)) (f39 0) → K (((32768 * (jrem r12 32)) + (4096 * r13)) + r14) f40 g9 s10 a_errors))))))))))))))))))))))))))))))))) ∧ (¬ (r7 = 0) → (wp_X9_fails a_now a_past n_saved a_errors n_hash (-3) (fun (r41 : Int32) (g42 : Nat → Int32) => K r41 a_now a_past n_saved g42))))))) ∧ (r5 = 0 → (wp_X9_fails a_now a_past n_saved a_errors n_hash (-2) (fun (r43 : Int32) (g44 : Nat → Int32) => K r43 a_now a_past n_saved g44))))))))))
set_option maxRecDepth 100000 in
set_option maxHeartbeats 4000000 in
theorem ct_X9_open (l : Launch) (E : EN) (h0 : Nat) (h1 : Nat) (h2 : Nat) (h3 : Nat) (a_now : Nat → Int32) (a_past : Nat → Int32) (n_saved : Int32) (a_errors : Nat → Int32) (n_hash : Int64) (p1 : Int32) (p2 : Int32) (p3 : Int32) (K : Int32 → (Nat → Int32) → (Nat → Int32) → Int32 → (Nat → Int32) → Prop) (hw : wp_X9_open a_now a_past n_saved a_errors n_hash p1 p2 p3 K) : Con l yX9_open cX9_open 8 (some .int) { frames := 2, cells := 0, slots := 0, locals := 46 } E [.ref h0, .int p1, .int p2, .int p3] [(h0, .inr (8, [.ref h1, .ref h2, .int n_saved, .ref h3, .long n_hash])), (h1, .inl (E.2.1, 404, .inl a_now)), (h2, .inl (E.2.1, 1212, .inl a_past)), (h3, .inl (E.2.1, 9, .inl a_errors))] (po_X9_open E h0 h1 h2 h3 n_hash K) := by
  refine Con.mk (by decide +kernel) (Nat.le_of_ble_eq_true rfl) ?_
  intro p e s m below meth c A hC hr hin
  have hC : Cx p s m _ meth c E A cX9_open 8 "CookieServerModel" := hC
  rw [wp_X9_open] at hw
  refine V_cast [(0, .ref h0), (1, .int p1), (2, .int p2), (3, .int p3)] [] [(h0, .inr (8, [.ref h1, .ref h2, .int n_saved, .ref h3, .long n_hash])), (h1, .inl (E.2.1, 404, .inl a_now)), (h2, .inl (E.2.1, 1212, .inl a_past)), (h3, .inl (E.2.1, 9, .inl a_errors))] [0, 1, 2, 3] [0, 1, 2, 3] rfl rfl rfl rfl ?_
  refine V_iload_n hC 1 rfl rfl dX9_open_0 ?_
  refine V_iload_n hC 2 rfl rfl dX9_open_1 ?_
  refine V_callS hC (wr := [(h0, .inr (8, [.ref h1, .ref h2, .int n_saved, .ref h3, .long n_hash])), (h1, .inl (E.2.1, 404, .inl a_now)), (h2, .inl (E.2.1, 1212, .inl a_past)), (h3, .inl (E.2.1, 9, .inl a_errors))]) 2 [.int p1, .int p2] [] (ct_X9_isPort l E p1 p2 _ hw) wd_677 wd_40 wd_675 wd_676 (by decide +kernel) rfl ⟨Nat.le_of_ble_eq_true rfl, Nat.le_of_ble_eq_true rfl⟩ [] [0, 1, 2, 3] rfl rfl rfl rfl (by decide) rfl (Nat.le_of_ble_eq_true rfl) ⟨Nat.le_of_ble_eq_true rfl, Nat.le_of_ble_eq_true rfl⟩ dX9_open_2 (fun v ws' hp => ?_)
  obtain ⟨r1, rfl, rfl, hw⟩ := hp
  refine V_cast [(0, .ref h0), (1, .int p1), (2, .int p2), (3, .int p3)] [.int r1] [(h0, .inr (8, [.ref h1, .ref h2, .int n_saved, .ref h3, .long n_hash])), (h1, .inl (E.2.1, 404, .inl a_now)), (h2, .inl (E.2.1, 1212, .inl a_past)), (h3, .inl (E.2.1, 9, .inl a_errors))] [0, 1, 2, 3] [0, 1, 2, 3] rfl rfl rfl rfl ?_
  refine V_if_eq hC 20 (by decide) dX9_open_5 (fun c2 => ?_) (fun c2 => ?_)
  · have hw := hw.1 c2
    refine V_aload_n hC 0 rfl rfl dX9_open_20 ?_
    refine V_bipush hC (-2) dX9_open_21 (by decide) ?_
    refine V_callV hC (wr := []) 1 [.int (-2)] [] (ct_X9_fails l E h0 h1 h2 h3 a_now a_past n_saved a_errors n_hash (-2) _ hw) wd_634 wd_40 wd_631 wd_633 wd_12 (by decide +kernel) rfl ⟨Nat.le_of_ble_eq_true rfl, Nat.le_of_ble_eq_true rfl⟩ [0, 1, 2, 3] [] rfl rfl rfl rfl (by decide) rfl rfl rfl (Nat.le_of_ble_eq_true rfl) ⟨Nat.le_of_ble_eq_true rfl, Nat.le_of_ble_eq_true rfl⟩ dX9_open_23 (fun v ws' hp => ?_)
    obtain ⟨r3, g4, rfl, rfl, hw⟩ := hp
    refine V_cast [(0, .ref h0), (1, .int p1), (2, .int p2), (3, .int p3)] [.int r3] [(h0, .inr (8, [.ref h1, .ref h2, .int n_saved, .ref h3, .long n_hash])), (h1, .inl (E.2.1, 404, .inl a_now)), (h2, .inl (E.2.1, 1212, .inl a_past)), (h3, .inl (E.2.1, 9, .inl g4))] [0, 1, 2, 3] [0, 1, 2, 3] rfl rfl rfl rfl ?_
    exact V_iret hC hr ⟨r3, a_now, a_past, n_saved, g4, rfl, rfl, hw⟩ dX9_open_26
  · have hw := hw.2 c2
    refine V_iload_n hC 3 rfl rfl dX9_open_8 ?_
    refine V_bipush hC 64 dX9_open_9 (by decide) ?_
    refine V_sipush hC 9999 dX9_open_11 (by decide) ?_
    refine V_callS hC (wr := [(h0, .inr (8, [.ref h1, .ref h2, .int n_saved, .ref h3, .long n_hash])), (h1, .inl (E.2.1, 404, .inl a_now)), (h2, .inl (E.2.1, 1212, .inl a_past)), (h3, .inl (E.2.1, 9, .inl a_errors))]) 3 [.int p3, .int 64, .int 9999] [] (ct_X9_within l E p3 64 9999 _ hw) wd_641 wd_40 wd_639 wd_640 (by decide +kernel) rfl ⟨Nat.le_of_ble_eq_true rfl, Nat.le_of_ble_eq_true rfl⟩ [] [0, 1, 2, 3] rfl rfl rfl rfl (by decide) rfl (Nat.le_of_ble_eq_true rfl) ⟨Nat.le_of_ble_eq_true rfl, Nat.le_of_ble_eq_true rfl⟩ dX9_open_14 (fun v ws' hp => ?_)
    obtain ⟨r5, rfl, rfl, hw⟩ := hp
    refine V_cast [(0, .ref h0), (1, .int p1), (2, .int p2), (3, .int p3)] [.int r5] [(h0, .inr (8, [.ref h1, .ref h2, .int n_saved, .ref h3, .long n_hash])), (h1, .inl (E.2.1, 404, .inl a_now)), (h2, .inl (E.2.1, 1212, .inl a_past)), (h3, .inl (E.2.1, 9, .inl a_errors))] [0, 1, 2, 3] [0, 1, 2, 3] rfl rfl rfl rfl ?_
    refine V_if_ne hC 27 (by decide) dX9_open_17 (fun c6 => ?_) (fun c6 => ?_)
    · have hw := hw.1 c6
      refine V_aload_n hC 0 rfl rfl dX9_open_27 ?_
      refine V_iload_n hC 1 rfl rfl dX9_open_28 ?_
      refine V_iload_n hC 2 rfl rfl dX9_open_29 ?_
      refine V_callV hC (wr := []) 2 [.int p1, .int p2] [] (ct_X9_isConnected l E h0 h1 h2 h3 a_now a_past n_saved a_errors n_hash p1 p2 _ hw) wd_681 wd_40 wd_678 wd_680 wd_18 (by decide +kernel) rfl ⟨Nat.le_of_ble_eq_true rfl, Nat.le_of_ble_eq_true rfl⟩ [0, 1, 2, 3] [] rfl rfl rfl rfl (by decide) rfl rfl rfl (Nat.le_of_ble_eq_true rfl) ⟨Nat.le_of_ble_eq_true rfl, Nat.le_of_ble_eq_true rfl⟩ dX9_open_30 (fun v ws' hp => ?_)
      obtain ⟨r7, rfl, rfl, hw⟩ := hp
      refine V_cast [(0, .ref h0), (1, .int p1), (2, .int p2), (3, .int p3)] [.int r7] [(h0, .inr (8, [.ref h1, .ref h2, .int n_saved, .ref h3, .long n_hash])), (h1, .inl (E.2.1, 404, .inl a_now)), (h2, .inl (E.2.1, 1212, .inl a_past)), (h3, .inl (E.2.1, 9, .inl a_errors))] [0, 1, 2, 3] [0, 1, 2, 3] rfl rfl rfl rfl ?_
      refine V_if_eq hC 43 (by decide) dX9_open_33 (fun c8 => ?_) (fun c8 => ?_)
      · have hw := hw.1 c8
        refine V_aload_n hC 0 rfl rfl dX9_open_43 ?_
        refine V_callV hC (wr := []) 0 [] [] (ct_X9_saves l E h0 h1 h2 h3 a_now a_past n_saved a_errors n_hash _ hw) wd_645 wd_40 wd_642 wd_644 wd_13 (by decide +kernel) rfl ⟨Nat.le_of_ble_eq_true rfl, Nat.le_of_ble_eq_true rfl⟩ [0, 1, 2, 3] [] rfl rfl rfl rfl (by decide) rfl rfl rfl (Nat.le_of_ble_eq_true rfl) ⟨Nat.le_of_ble_eq_true rfl, Nat.le_of_ble_eq_true rfl⟩ dX9_open_44 (fun v ws' hp => ?_)
        obtain ⟨g9, s10, rfl, rfl, hw⟩ := hp
        refine V_cast [(0, .ref h0), (1, .int p1), (2, .int p2), (3, .int p3)] [] [(h0, .inr (8, [.ref h1, .ref h2, .int s10, .ref h3, .long n_hash])), (h1, .inl (E.2.1, 404, .inl a_now)), (h2, .inl (E.2.1, 1212, .inl g9)), (h3, .inl (E.2.1, 9, .inl a_errors))] [0, 1, 2, 3] [0, 1, 2, 3] rfl rfl rfl rfl ?_
        refine V_aload_n hC 0 rfl rfl dX9_open_47 ?_
        refine V_get hC inX9 rfl 0 (by decide) wd_611 0 rfl rfl dX9_open_48 ?_
        refine V_bipush hC 8 dX9_open_51 (by decide) ?_
        refine V_aload_n hC 0 rfl rfl dX9_open_53 ?_
        refine V_get hC inX9 rfl 0 (by decide) wd_611 0 rfl rfl dX9_open_54 ?_
        refine V_iconst hC 0 dX9_open_57 (by decide) ?_
        refine V_iald hC 0 (by decide) 1 rfl (by unfold vp_in; decide) dX9_open_58 ?_
        refine V_bipush hC 16 dX9_open_59 (by decide) ?_
        refine V_irem hC (by decide) dX9_open_61 ?_
        refine V_iadd hC dX9_open_62 ?_
        refine V_dup2 hC rfl rfl dX9_open_63 ?_
        refine V_iald hC _ rfl 1 rfl hw.1 dX9_open_64 ?_
        have hw := hw.2
        refine V_iconst hC 1 dX9_open_65 (by decide) ?_
        refine V_iadd hC dX9_open_66 ?_
        refine V_iast hC _ rfl 1 rfl hw.1 dX9_open_67 (fun f11 ef11 => ?_)
        have hw := hw.2
        have hw := hw f11 ef11
        refine V_ws [(h0, .inr (8, [.ref h1, .ref h2, .int s10, .ref h3, .long n_hash])), (h1, .inl (E.2.1, 404, .inl f11)), (h2, .inl (E.2.1, 1212, .inl g9)), (h3, .inl (E.2.1, 9, .inl a_errors))] rfl ?_
        refine V_aload_n hC 0 rfl rfl dX9_open_68 ?_
        refine V_callV hC (wr := []) 0 [] [] (ct_X9_epochNow l E h0 h1 h2 h3 f11 g9 s10 a_errors n_hash _ hw) wd_661 wd_40 wd_658 wd_660 wd_17 (by decide +kernel) rfl ⟨Nat.le_of_ble_eq_true rfl, Nat.le_of_ble_eq_true rfl⟩ [0, 1, 2, 3] [] rfl rfl rfl rfl (by decide) rfl rfl rfl (Nat.le_of_ble_eq_true rfl) ⟨Nat.le_of_ble_eq_true rfl, Nat.le_of_ble_eq_true rfl⟩ dX9_open_69 (fun v ws' hp => ?_)
        obtain ⟨r12, rfl, rfl, hw⟩ := hp
        refine V_cast [(0, .ref h0), (1, .int p1), (2, .int p2), (3, .int p3)] [.int r12] [(h0, .inr (8, [.ref h1, .ref h2, .int s10, .ref h3, .long n_hash])), (h1, .inl (E.2.1, 404, .inl f11)), (h2, .inl (E.2.1, 1212, .inl g9)), (h3, .inl (E.2.1, 9, .inl a_errors))] [0, 1, 2, 3] [0, 1, 2, 3] rfl rfl rfl rfl ?_
        refine V_bipush hC 32 dX9_open_72 (by decide) ?_
        refine V_irem hC (by decide) dX9_open_74 ?_
        refine V_istore hC [(4, .int (jrem r12 32)), (0, .ref h0), (1, .int p1), (2, .int p2), (3, .int p3)] (by decide) rfl dX9_open_75 ?_
        refine V_iload_n hC 4 rfl rfl dX9_open_77 ?_
        refine V_callS hC (wr := [(h0, .inr (8, [.ref h1, .ref h2, .int s10, .ref h3, .long n_hash])), (h1, .inl (E.2.1, 404, .inl f11)), (h2, .inl (E.2.1, 1212, .inl g9)), (h3, .inl (E.2.1, 9, .inl a_errors))]) 1 [.int p3] [] (ct_X9_indexOf l E p3 _ hw) wd_688 wd_40 wd_686 wd_687 (by decide +kernel) rfl ⟨Nat.le_of_ble_eq_true rfl, Nat.le_of_ble_eq_true rfl⟩ [] [0, 1, 2, 3] rfl rfl rfl rfl (by decide) rfl (Nat.le_of_ble_eq_true rfl) ⟨Nat.le_of_ble_eq_true rfl, Nat.le_of_ble_eq_true rfl⟩ dX9_open_78 (fun v ws' hp => ?_)
        obtain ⟨r13, rfl, rfl, hw⟩ := hp
        refine V_cast [(4, .int (jrem r12 32)), (0, .ref h0), (1, .int p1), (2, .int p2), (3, .int p3)] [.int r13] [(h0, .inr (8, [.ref h1, .ref h2, .int s10, .ref h3, .long n_hash])), (h1, .inl (E.2.1, 404, .inl f11)), (h2, .inl (E.2.1, 1212, .inl g9)), (h3, .inl (E.2.1, 9, .inl a_errors))] [0, 1, 2, 3, 4] [0, 1, 2, 3] rfl rfl rfl rfl ?_
        refine V_istore hC [(5, .int r13), (4, .int (jrem r12 32)), (0, .ref h0), (1, .int p1), (2, .int p2), (3, .int p3)] (by decide) rfl dX9_open_81 ?_
        refine V_ldc hC 32768 wd_665 dX9_open_83 ?_
        refine V_iload hC 1 rfl dX9_open_85 ?_
        refine V_imul hC dX9_open_87 ?_
        refine V_sipush hC 4096 dX9_open_88 (by decide) ?_
        refine V_iload hC 0 rfl dX9_open_91 ?_
        refine V_imul hC dX9_open_93 ?_
        refine V_iadd hC dX9_open_94 ?_
        refine V_iload_n hC 3 rfl rfl dX9_open_95 ?_
        refine V_iload_n hC 4 rfl rfl dX9_open_96 ?_
        refine V_iload hC 1 rfl dX9_open_97 ?_
        refine V_iload hC 0 rfl dX9_open_99 ?_
        refine V_aload_n hC 2 rfl rfl dX9_open_101 ?_
        refine V_get hC inX9 rfl 0 (by decide) wd_611 0 rfl rfl dX9_open_102 ?_
        refine V_iconst hC 1 dX9_open_105 (by decide) ?_
        refine V_iald hC 1 (by decide) 1 rfl (by unfold vp_in; decide) dX9_open_106 ?_
        refine V_callS hC (wr := [(h0, .inr (8, [.ref h1, .ref h2, .int s10, .ref h3, .long n_hash])), (h1, .inl (E.2.1, 404, .inl f11)), (h2, .inl (E.2.1, 1212, .inl g9)), (h3, .inl (E.2.1, 9, .inl a_errors))]) 5 [.int p1, .int p2, .int (jrem r12 32), .int r13, .int (f11 1)] [.int ((32768 * (jrem r12 32)) + (4096 * r13))] (ct_X9_markOf l E p1 p2 (jrem r12 32) r13 (f11 1) _ hw) wd_694 wd_40 wd_692 wd_693 (by decide +kernel) rfl ⟨Nat.le_of_ble_eq_true rfl, Nat.le_of_ble_eq_true rfl⟩ [] [0, 1, 2, 3] rfl rfl rfl rfl (by decide) rfl (Nat.le_of_ble_eq_true rfl) ⟨Nat.le_of_ble_eq_true rfl, Nat.le_of_ble_eq_true rfl⟩ dX9_open_107 (fun v ws' hp => ?_)
        obtain ⟨r14, rfl, rfl, hw⟩ := hp
        refine V_cast [(5, .int r13), (4, .int (jrem r12 32)), (0, .ref h0), (1, .int p1), (2, .int p2), (3, .int p3)] [.int r14, .int ((32768 * (jrem r12 32)) + (4096 * r13))] [(h0, .inr (8, [.ref h1, .ref h2, .int s10, .ref h3, .long n_hash])), (h1, .inl (E.2.1, 404, .inl f11)), (h2, .inl (E.2.1, 1212, .inl g9)), (h3, .inl (E.2.1, 9, .inl a_errors))] [0, 1, 2, 3, 4, 5] [0, 1, 2, 3] rfl rfl rfl rfl ?_
        refine V_iadd hC dX9_open_110 ?_
        refine V_istore hC [(6, .int (((32768 * (jrem r12 32)) + (4096 * r13)) + r14)), (5, .int r13), (4, .int (jrem r12 32)), (0, .ref h0), (1, .int p1), (2, .int p2), (3, .int p3)] (by decide) rfl dX9_open_111 ?_
        refine V_aload_n hC 3 rfl rfl dX9_open_113 ?_
        refine V_iload_n hC 4 rfl rfl dX9_open_114 ?_
        refine V_iload_n hC 5 rfl rfl dX9_open_115 ?_
        refine V_callV hC (wr := []) 2 [.int p1, .int p2] [] (ct_X9_entryOf l E h0 h1 h2 h3 f11 g9 s10 a_errors n_hash p1 p2 _ hw) wd_704 wd_40 wd_701 wd_703 wd_20 (by decide +kernel) rfl ⟨Nat.le_of_ble_eq_true rfl, Nat.le_of_ble_eq_true rfl⟩ [0, 1, 2, 3] [] rfl rfl rfl rfl (by decide) rfl rfl rfl (Nat.le_of_ble_eq_true rfl) ⟨Nat.le_of_ble_eq_true rfl, Nat.le_of_ble_eq_true rfl⟩ dX9_open_116 (fun v ws' hp => ?_)
        obtain ⟨r15, rfl, rfl, hw⟩ := hp
        refine V_cast [(6, .int (((32768 * (jrem r12 32)) + (4096 * r13)) + r14)), (5, .int r13), (4, .int (jrem r12 32)), (0, .ref h0), (1, .int p1), (2, .int p2), (3, .int p3)] [.int r15] [(h0, .inr (8, [.ref h1, .ref h2, .int s10, .ref h3, .long n_hash])), (h1, .inl (E.2.1, 404, .inl f11)), (h2, .inl (E.2.1, 1212, .inl g9)), (h3, .inl (E.2.1, 9, .inl a_errors))] [0, 1, 2, 3, 4, 5, 6] [0, 1, 2, 3] rfl rfl rfl rfl ?_
        refine V_istore hC [(7, .int r15), (6, .int (((32768 * (jrem r12 32)) + (4096 * r13)) + r14)), (5, .int r13), (4, .int (jrem r12 32)), (0, .ref h0), (1, .int p1), (2, .int p2), (3, .int p3)] (by decide) rfl dX9_open_119 ?_
        refine V_iload hC 0 rfl dX9_open_121 ?_
        refine V_iconst hC (-1) dX9_open_123 (by decide) ?_
        refine V_icmp_ne hC 164 (by decide) dX9_open_124 (fun c16 => ?_) (fun c16 => ?_)
        · have hw := hw.1 c16
          refine V_iload hC 0 rfl dX9_open_164 ?_
          refine V_iconst hC (-1) dX9_open_166 (by decide) ?_
          refine V_icmp_eq hC 234 (by decide) dX9_open_167 (fun c17 => ?_) (fun c17 => ?_)
          · have hw := hw.1 c17
            refine V_iload hC 1 rfl dX9_open_234 ?_
            exact V_iret hC hr ⟨((32768 * (jrem r12 32)) + (4096 * r13)) + r14, f11, g9, s10, a_errors, rfl, rfl, hw⟩ dX9_open_236
          · have hw := hw.2 c17
            refine V_aload_n hC 4 rfl rfl dX9_open_170 ?_
            refine V_get hC inX9 rfl 0 (by decide) wd_611 0 rfl rfl dX9_open_171 ?_
            refine V_bipush hC 24 dX9_open_174 (by decide) ?_
            refine V_iconst hC 4 dX9_open_176 (by decide) ?_
            refine V_iload hC 0 rfl dX9_open_177 ?_
            refine V_imul hC dX9_open_179 ?_
            refine V_iadd hC dX9_open_180 ?_
            refine V_iload_n hC 5 rfl rfl dX9_open_181 ?_
            refine V_iast hC _ rfl 1 rfl hw.1 dX9_open_182 (fun f18 ef18 => ?_)
            have hw := hw.2
            have hw := hw f18 ef18
            refine V_ws [(h0, .inr (8, [.ref h1, .ref h2, .int s10, .ref h3, .long n_hash])), (h1, .inl (E.2.1, 404, .inl f18)), (h2, .inl (E.2.1, 1212, .inl g9)), (h3, .inl (E.2.1, 9, .inl a_errors))] rfl ?_
            refine V_aload_n hC 4 rfl rfl dX9_open_183 ?_
            refine V_get hC inX9 rfl 0 (by decide) wd_611 0 rfl rfl dX9_open_184 ?_
            refine V_bipush hC 24 dX9_open_187 (by decide) ?_
            refine V_iconst hC 4 dX9_open_189 (by decide) ?_
            refine V_iload hC 0 rfl dX9_open_190 ?_
            refine V_imul hC dX9_open_192 ?_
            refine V_iadd hC dX9_open_193 ?_
            refine V_iconst hC 1 dX9_open_194 (by decide) ?_
            refine V_iadd hC dX9_open_195 ?_
            refine V_iload_n hC 6 rfl rfl dX9_open_196 ?_
            refine V_iast hC _ rfl 1 rfl hw.1 dX9_open_197 (fun f19 ef19 => ?_)
            have hw := hw.2
            have hw := hw f19 ef19
            refine V_ws [(h0, .inr (8, [.ref h1, .ref h2, .int s10, .ref h3, .long n_hash])), (h1, .inl (E.2.1, 404, .inl f19)), (h2, .inl (E.2.1, 1212, .inl g9)), (h3, .inl (E.2.1, 9, .inl a_errors))] rfl ?_
            refine V_aload_n hC 4 rfl rfl dX9_open_198 ?_
            refine V_get hC inX9 rfl 0 (by decide) wd_611 0 rfl rfl dX9_open_199 ?_
            refine V_bipush hC 24 dX9_open_202 (by decide) ?_
            refine V_iconst hC 4 dX9_open_204 (by decide) ?_
            refine V_iload hC 0 rfl dX9_open_205 ?_
            refine V_imul hC dX9_open_207 ?_
            refine V_iadd hC dX9_open_208 ?_
            refine V_iconst hC 2 dX9_open_209 (by decide) ?_
            refine V_iadd hC dX9_open_210 ?_
            refine V_iload hC 1 rfl dX9_open_211 ?_
            refine V_iast hC _ rfl 1 rfl hw.1 dX9_open_213 (fun f20 ef20 => ?_)
            have hw := hw.2
            have hw := hw f20 ef20
            refine V_ws [(h0, .inr (8, [.ref h1, .ref h2, .int s10, .ref h3, .long n_hash])), (h1, .inl (E.2.1, 404, .inl f20)), (h2, .inl (E.2.1, 1212, .inl g9)), (h3, .inl (E.2.1, 9, .inl a_errors))] rfl ?_
            refine V_aload_n hC 4 rfl rfl dX9_open_214 ?_
            refine V_get hC inX9 rfl 0 (by decide) wd_611 0 rfl rfl dX9_open_215 ?_
            refine V_bipush hC 24 dX9_open_218 (by decide) ?_
            refine V_iconst hC 4 dX9_open_220 (by decide) ?_
            refine V_iload hC 0 rfl dX9_open_221 ?_
            refine V_imul hC dX9_open_223 ?_
            refine V_iadd hC dX9_open_224 ?_
            refine V_iconst hC 3 dX9_open_225 (by decide) ?_
            refine V_iadd hC dX9_open_226 ?_
            refine V_aload_n hC 4 rfl rfl dX9_open_227 ?_
            refine V_get hC inX9 rfl 0 (by decide) wd_611 0 rfl rfl dX9_open_228 ?_
            refine V_iconst hC 0 dX9_open_231 (by decide) ?_
            refine V_iald hC 0 (by decide) 1 rfl (by unfold vp_in; decide) dX9_open_232 ?_
            refine V_iast hC _ rfl 1 rfl hw.1 dX9_open_233 (fun f21 ef21 => ?_)
            have hw := hw.2
            have hw := hw f21 ef21
            refine V_ws [(h0, .inr (8, [.ref h1, .ref h2, .int s10, .ref h3, .long n_hash])), (h1, .inl (E.2.1, 404, .inl f21)), (h2, .inl (E.2.1, 1212, .inl g9)), (h3, .inl (E.2.1, 9, .inl a_errors))] rfl ?_
            refine V_iload hC 1 rfl dX9_open_234 ?_
            exact V_iret hC hr ⟨((32768 * (jrem r12 32)) + (4096 * r13)) + r14, f21, g9, s10, a_errors, rfl, rfl, hw⟩ dX9_open_236
        · have hw := hw.2 c16
          refine V_aload_n hC 4 rfl rfl dX9_open_127 ?_
          refine V_callV hC (wr := []) 0 [] [] (ct_X9_loadNow l E h0 h1 h2 h3 f11 g9 s10 a_errors n_hash _ hw) wd_708 wd_40 wd_705 wd_707 wd_21 (by decide +kernel) rfl ⟨Nat.le_of_ble_eq_true rfl, Nat.le_of_ble_eq_true rfl⟩ [0, 1, 2, 3] [] rfl rfl rfl rfl (by decide) rfl rfl rfl (Nat.le_of_ble_eq_true rfl) ⟨Nat.le_of_ble_eq_true rfl, Nat.le_of_ble_eq_true rfl⟩ dX9_open_128 (fun v ws' hp => ?_)
          obtain ⟨r22, rfl, rfl, hw⟩ := hp
          refine V_cast [(7, .int r15), (6, .int (((32768 * (jrem r12 32)) + (4096 * r13)) + r14)), (5, .int r13), (4, .int (jrem r12 32)), (0, .ref h0), (1, .int p1), (2, .int p2), (3, .int p3)] [.int r22] [(h0, .inr (8, [.ref h1, .ref h2, .int s10, .ref h3, .long n_hash])), (h1, .inl (E.2.1, 404, .inl f11)), (h2, .inl (E.2.1, 1212, .inl g9)), (h3, .inl (E.2.1, 9, .inl a_errors))] [0, 1, 2, 3, 4, 5, 6, 7] [0, 1, 2, 3] rfl rfl rfl rfl ?_
          refine V_bipush hC 12 dX9_open_131 (by decide) ?_
          refine V_icmp_ge hC 164 (by decide) dX9_open_133 (fun c23 => ?_) (fun c23 => ?_)
          · have hw := hw.1 c23
            refine V_iload hC 0 rfl dX9_open_164 ?_
            refine V_iconst hC (-1) dX9_open_166 (by decide) ?_
            refine V_icmp_eq hC 234 (by decide) dX9_open_167 (fun c24 => ?_) (fun c24 => ?_)
            · have hw := hw.1 c24
              refine V_iload hC 1 rfl dX9_open_234 ?_
              exact V_iret hC hr ⟨((32768 * (jrem r12 32)) + (4096 * r13)) + r14, f11, g9, s10, a_errors, rfl, rfl, hw⟩ dX9_open_236
            · have hw := hw.2 c24
              refine V_aload_n hC 4 rfl rfl dX9_open_170 ?_
              refine V_get hC inX9 rfl 0 (by decide) wd_611 0 rfl rfl dX9_open_171 ?_
              refine V_bipush hC 24 dX9_open_174 (by decide) ?_
              refine V_iconst hC 4 dX9_open_176 (by decide) ?_
              refine V_iload hC 0 rfl dX9_open_177 ?_
              refine V_imul hC dX9_open_179 ?_
              refine V_iadd hC dX9_open_180 ?_
              refine V_iload_n hC 5 rfl rfl dX9_open_181 ?_
              refine V_iast hC _ rfl 1 rfl hw.1 dX9_open_182 (fun f25 ef25 => ?_)
              have hw := hw.2
              have hw := hw f25 ef25
              refine V_ws [(h0, .inr (8, [.ref h1, .ref h2, .int s10, .ref h3, .long n_hash])), (h1, .inl (E.2.1, 404, .inl f25)), (h2, .inl (E.2.1, 1212, .inl g9)), (h3, .inl (E.2.1, 9, .inl a_errors))] rfl ?_
              refine V_aload_n hC 4 rfl rfl dX9_open_183 ?_
              refine V_get hC inX9 rfl 0 (by decide) wd_611 0 rfl rfl dX9_open_184 ?_
              refine V_bipush hC 24 dX9_open_187 (by decide) ?_
              refine V_iconst hC 4 dX9_open_189 (by decide) ?_
              refine V_iload hC 0 rfl dX9_open_190 ?_
              refine V_imul hC dX9_open_192 ?_
              refine V_iadd hC dX9_open_193 ?_
              refine V_iconst hC 1 dX9_open_194 (by decide) ?_
              refine V_iadd hC dX9_open_195 ?_
              refine V_iload_n hC 6 rfl rfl dX9_open_196 ?_
              refine V_iast hC _ rfl 1 rfl hw.1 dX9_open_197 (fun f26 ef26 => ?_)
              have hw := hw.2
              have hw := hw f26 ef26
              refine V_ws [(h0, .inr (8, [.ref h1, .ref h2, .int s10, .ref h3, .long n_hash])), (h1, .inl (E.2.1, 404, .inl f26)), (h2, .inl (E.2.1, 1212, .inl g9)), (h3, .inl (E.2.1, 9, .inl a_errors))] rfl ?_
              refine V_aload_n hC 4 rfl rfl dX9_open_198 ?_
              refine V_get hC inX9 rfl 0 (by decide) wd_611 0 rfl rfl dX9_open_199 ?_
              refine V_bipush hC 24 dX9_open_202 (by decide) ?_
              refine V_iconst hC 4 dX9_open_204 (by decide) ?_
              refine V_iload hC 0 rfl dX9_open_205 ?_
              refine V_imul hC dX9_open_207 ?_
              refine V_iadd hC dX9_open_208 ?_
              refine V_iconst hC 2 dX9_open_209 (by decide) ?_
              refine V_iadd hC dX9_open_210 ?_
              refine V_iload hC 1 rfl dX9_open_211 ?_
              refine V_iast hC _ rfl 1 rfl hw.1 dX9_open_213 (fun f27 ef27 => ?_)
              have hw := hw.2
              have hw := hw f27 ef27
              refine V_ws [(h0, .inr (8, [.ref h1, .ref h2, .int s10, .ref h3, .long n_hash])), (h1, .inl (E.2.1, 404, .inl f27)), (h2, .inl (E.2.1, 1212, .inl g9)), (h3, .inl (E.2.1, 9, .inl a_errors))] rfl ?_
              refine V_aload_n hC 4 rfl rfl dX9_open_214 ?_
              refine V_get hC inX9 rfl 0 (by decide) wd_611 0 rfl rfl dX9_open_215 ?_
              refine V_bipush hC 24 dX9_open_218 (by decide) ?_
              refine V_iconst hC 4 dX9_open_220 (by decide) ?_
              refine V_iload hC 0 rfl dX9_open_221 ?_
              refine V_imul hC dX9_open_223 ?_
              refine V_iadd hC dX9_open_224 ?_
              refine V_iconst hC 3 dX9_open_225 (by decide) ?_
              refine V_iadd hC dX9_open_226 ?_
              refine V_aload_n hC 4 rfl rfl dX9_open_227 ?_
              refine V_get hC inX9 rfl 0 (by decide) wd_611 0 rfl rfl dX9_open_228 ?_
              refine V_iconst hC 0 dX9_open_231 (by decide) ?_
              refine V_iald hC 0 (by decide) 1 rfl (by unfold vp_in; decide) dX9_open_232 ?_
              refine V_iast hC _ rfl 1 rfl hw.1 dX9_open_233 (fun f28 ef28 => ?_)
              have hw := hw.2
              have hw := hw f28 ef28
              refine V_ws [(h0, .inr (8, [.ref h1, .ref h2, .int s10, .ref h3, .long n_hash])), (h1, .inl (E.2.1, 404, .inl f28)), (h2, .inl (E.2.1, 1212, .inl g9)), (h3, .inl (E.2.1, 9, .inl a_errors))] rfl ?_
              refine V_iload hC 1 rfl dX9_open_234 ?_
              exact V_iret hC hr ⟨((32768 * (jrem r12 32)) + (4096 * r13)) + r14, f28, g9, s10, a_errors, rfl, rfl, hw⟩ dX9_open_236
          · have hw := hw.2 c23
            refine V_aload_n hC 4 rfl rfl dX9_open_136 ?_
            refine V_get hC inX9 rfl 0 (by decide) wd_611 0 rfl rfl dX9_open_137 ?_
            refine V_iconst hC 3 dX9_open_140 (by decide) ?_
            refine V_iald hC 3 (by decide) 1 rfl (by unfold vp_in; decide) dX9_open_141 ?_
            refine V_iconst hC 4 dX9_open_142 (by decide) ?_
            refine V_icmp_ge hC 164 (by decide) dX9_open_143 (fun c29 => ?_) (fun c29 => ?_)
            · have hw := hw.1 c29
              refine V_iload hC 0 rfl dX9_open_164 ?_
              refine V_iconst hC (-1) dX9_open_166 (by decide) ?_
              refine V_icmp_eq hC 234 (by decide) dX9_open_167 (fun c30 => ?_) (fun c30 => ?_)
              · have hw := hw.1 c30
                refine V_iload hC 1 rfl dX9_open_234 ?_
                exact V_iret hC hr ⟨((32768 * (jrem r12 32)) + (4096 * r13)) + r14, f11, g9, s10, a_errors, rfl, rfl, hw⟩ dX9_open_236
              · have hw := hw.2 c30
                refine V_aload_n hC 4 rfl rfl dX9_open_170 ?_
                refine V_get hC inX9 rfl 0 (by decide) wd_611 0 rfl rfl dX9_open_171 ?_
                refine V_bipush hC 24 dX9_open_174 (by decide) ?_
                refine V_iconst hC 4 dX9_open_176 (by decide) ?_
                refine V_iload hC 0 rfl dX9_open_177 ?_
                refine V_imul hC dX9_open_179 ?_
                refine V_iadd hC dX9_open_180 ?_
                refine V_iload_n hC 5 rfl rfl dX9_open_181 ?_
                refine V_iast hC _ rfl 1 rfl hw.1 dX9_open_182 (fun f31 ef31 => ?_)
                have hw := hw.2
                have hw := hw f31 ef31
                refine V_ws [(h0, .inr (8, [.ref h1, .ref h2, .int s10, .ref h3, .long n_hash])), (h1, .inl (E.2.1, 404, .inl f31)), (h2, .inl (E.2.1, 1212, .inl g9)), (h3, .inl (E.2.1, 9, .inl a_errors))] rfl ?_
                refine V_aload_n hC 4 rfl rfl dX9_open_183 ?_
                refine V_get hC inX9 rfl 0 (by decide) wd_611 0 rfl rfl dX9_open_184 ?_
                refine V_bipush hC 24 dX9_open_187 (by decide) ?_
                refine V_iconst hC 4 dX9_open_189 (by decide) ?_
                refine V_iload hC 0 rfl dX9_open_190 ?_
                refine V_imul hC dX9_open_192 ?_
                refine V_iadd hC dX9_open_193 ?_
                refine V_iconst hC 1 dX9_open_194 (by decide) ?_
                refine V_iadd hC dX9_open_195 ?_
                refine V_iload_n hC 6 rfl rfl dX9_open_196 ?_
                refine V_iast hC _ rfl 1 rfl hw.1 dX9_open_197 (fun f32 ef32 => ?_)
                have hw := hw.2
                have hw := hw f32 ef32
                refine V_ws [(h0, .inr (8, [.ref h1, .ref h2, .int s10, .ref h3, .long n_hash])), (h1, .inl (E.2.1, 404, .inl f32)), (h2, .inl (E.2.1, 1212, .inl g9)), (h3, .inl (E.2.1, 9, .inl a_errors))] rfl ?_
                refine V_aload_n hC 4 rfl rfl dX9_open_198 ?_
                refine V_get hC inX9 rfl 0 (by decide) wd_611 0 rfl rfl dX9_open_199 ?_
                refine V_bipush hC 24 dX9_open_202 (by decide) ?_
                refine V_iconst hC 4 dX9_open_204 (by decide) ?_
                refine V_iload hC 0 rfl dX9_open_205 ?_
                refine V_imul hC dX9_open_207 ?_
                refine V_iadd hC dX9_open_208 ?_
                refine V_iconst hC 2 dX9_open_209 (by decide) ?_
                refine V_iadd hC dX9_open_210 ?_
                refine V_iload hC 1 rfl dX9_open_211 ?_
                refine V_iast hC _ rfl 1 rfl hw.1 dX9_open_213 (fun f33 ef33 => ?_)
                have hw := hw.2
                have hw := hw f33 ef33
                refine V_ws [(h0, .inr (8, [.ref h1, .ref h2, .int s10, .ref h3, .long n_hash])), (h1, .inl (E.2.1, 404, .inl f33)), (h2, .inl (E.2.1, 1212, .inl g9)), (h3, .inl (E.2.1, 9, .inl a_errors))] rfl ?_
                refine V_aload_n hC 4 rfl rfl dX9_open_214 ?_
                refine V_get hC inX9 rfl 0 (by decide) wd_611 0 rfl rfl dX9_open_215 ?_
                refine V_bipush hC 24 dX9_open_218 (by decide) ?_
                refine V_iconst hC 4 dX9_open_220 (by decide) ?_
                refine V_iload hC 0 rfl dX9_open_221 ?_
                refine V_imul hC dX9_open_223 ?_
                refine V_iadd hC dX9_open_224 ?_
                refine V_iconst hC 3 dX9_open_225 (by decide) ?_
                refine V_iadd hC dX9_open_226 ?_
                refine V_aload_n hC 4 rfl rfl dX9_open_227 ?_
                refine V_get hC inX9 rfl 0 (by decide) wd_611 0 rfl rfl dX9_open_228 ?_
                refine V_iconst hC 0 dX9_open_231 (by decide) ?_
                refine V_iald hC 0 (by decide) 1 rfl (by unfold vp_in; decide) dX9_open_232 ?_
                refine V_iast hC _ rfl 1 rfl hw.1 dX9_open_233 (fun f34 ef34 => ?_)
                have hw := hw.2
                have hw := hw f34 ef34
                refine V_ws [(h0, .inr (8, [.ref h1, .ref h2, .int s10, .ref h3, .long n_hash])), (h1, .inl (E.2.1, 404, .inl f34)), (h2, .inl (E.2.1, 1212, .inl g9)), (h3, .inl (E.2.1, 9, .inl a_errors))] rfl ?_
                refine V_iload hC 1 rfl dX9_open_234 ?_
                exact V_iret hC hr ⟨((32768 * (jrem r12 32)) + (4096 * r13)) + r14, f34, g9, s10, a_errors, rfl, rfl, hw⟩ dX9_open_236
            · have hw := hw.2 c29
              refine V_aload_n hC 4 rfl rfl dX9_open_146 ?_
              refine V_get hC inX9 rfl 0 (by decide) wd_611 0 rfl rfl dX9_open_147 ?_
              refine V_iconst hC 3 dX9_open_150 (by decide) ?_
              refine V_iald hC 3 (by decide) 1 rfl (by unfold vp_in; decide) dX9_open_151 ?_
              refine V_istore hC [(7, .int (f11 3)), (6, .int (((32768 * (jrem r12 32)) + (4096 * r13)) + r14)), (5, .int r13), (4, .int (jrem r12 32)), (0, .ref h0), (1, .int p1), (2, .int p2), (3, .int p3)] (by decide) rfl dX9_open_152 ?_
              refine V_aload_n hC 4 rfl rfl dX9_open_154 ?_
              refine V_get hC inX9 rfl 0 (by decide) wd_611 0 rfl rfl dX9_open_155 ?_
              refine V_iconst hC 3 dX9_open_158 (by decide) ?_
              refine V_dup2 hC rfl rfl dX9_open_159 ?_
              refine V_iald hC 3 (by decide) 1 rfl (by unfold vp_in; decide) dX9_open_160 ?_
              refine V_iconst hC 1 dX9_open_161 (by decide) ?_
              refine V_iadd hC dX9_open_162 ?_
              refine V_iast hC 3 (by decide) 1 rfl (by unfold vp_in; decide) dX9_open_163 (fun f35 ef35 => ?_)
              have hw := hw f35 ef35
              refine V_ws [(h0, .inr (8, [.ref h1, .ref h2, .int s10, .ref h3, .long n_hash])), (h1, .inl (E.2.1, 404, .inl f35)), (h2, .inl (E.2.1, 1212, .inl g9)), (h3, .inl (E.2.1, 9, .inl a_errors))] rfl ?_
              refine V_iload hC 0 rfl dX9_open_164 ?_
              refine V_iconst hC (-1) dX9_open_166 (by decide) ?_
              refine V_icmp_eq hC 234 (by decide) dX9_open_167 (fun c36 => ?_) (fun c36 => ?_)
              · have hw := hw.1 c36
                refine V_iload hC 1 rfl dX9_open_234 ?_
                exact V_iret hC hr ⟨((32768 * (jrem r12 32)) + (4096 * r13)) + r14, f35, g9, s10, a_errors, rfl, rfl, hw⟩ dX9_open_236
              · have hw := hw.2 c36
                refine V_aload_n hC 4 rfl rfl dX9_open_170 ?_
                refine V_get hC inX9 rfl 0 (by decide) wd_611 0 rfl rfl dX9_open_171 ?_
                refine V_bipush hC 24 dX9_open_174 (by decide) ?_
                refine V_iconst hC 4 dX9_open_176 (by decide) ?_
                refine V_iload hC 0 rfl dX9_open_177 ?_
                refine V_imul hC dX9_open_179 ?_
                refine V_iadd hC dX9_open_180 ?_
                refine V_iload_n hC 5 rfl rfl dX9_open_181 ?_
                refine V_iast hC _ rfl 1 rfl hw.1 dX9_open_182 (fun f37 ef37 => ?_)
                have hw := hw.2
                have hw := hw f37 ef37
                refine V_ws [(h0, .inr (8, [.ref h1, .ref h2, .int s10, .ref h3, .long n_hash])), (h1, .inl (E.2.1, 404, .inl f37)), (h2, .inl (E.2.1, 1212, .inl g9)), (h3, .inl (E.2.1, 9, .inl a_errors))] rfl ?_
                refine V_aload_n hC 4 rfl rfl dX9_open_183 ?_
                refine V_get hC inX9 rfl 0 (by decide) wd_611 0 rfl rfl dX9_open_184 ?_
                refine V_bipush hC 24 dX9_open_187 (by decide) ?_
                refine V_iconst hC 4 dX9_open_189 (by decide) ?_
                refine V_iload hC 0 rfl dX9_open_190 ?_
                refine V_imul hC dX9_open_192 ?_
                refine V_iadd hC dX9_open_193 ?_
                refine V_iconst hC 1 dX9_open_194 (by decide) ?_
                refine V_iadd hC dX9_open_195 ?_
                refine V_iload_n hC 6 rfl rfl dX9_open_196 ?_
                refine V_iast hC _ rfl 1 rfl hw.1 dX9_open_197 (fun f38 ef38 => ?_)
                have hw := hw.2
                have hw := hw f38 ef38
                refine V_ws [(h0, .inr (8, [.ref h1, .ref h2, .int s10, .ref h3, .long n_hash])), (h1, .inl (E.2.1, 404, .inl f38)), (h2, .inl (E.2.1, 1212, .inl g9)), (h3, .inl (E.2.1, 9, .inl a_errors))] rfl ?_
                refine V_aload_n hC 4 rfl rfl dX9_open_198 ?_
                refine V_get hC inX9 rfl 0 (by decide) wd_611 0 rfl rfl dX9_open_199 ?_
                refine V_bipush hC 24 dX9_open_202 (by decide) ?_
                refine V_iconst hC 4 dX9_open_204 (by decide) ?_
                refine V_iload hC 0 rfl dX9_open_205 ?_
                refine V_imul hC dX9_open_207 ?_
                refine V_iadd hC dX9_open_208 ?_
                refine V_iconst hC 2 dX9_open_209 (by decide) ?_
                refine V_iadd hC dX9_open_210 ?_
                refine V_iload hC 1 rfl dX9_open_211 ?_
                refine V_iast hC _ rfl 1 rfl hw.1 dX9_open_213 (fun f39 ef39 => ?_)
                have hw := hw.2
                have hw := hw f39 ef39
                refine V_ws [(h0, .inr (8, [.ref h1, .ref h2, .int s10, .ref h3, .long n_hash])), (h1, .inl (E.2.1, 404, .inl f39)), (h2, .inl (E.2.1, 1212, .inl g9)), (h3, .inl (E.2.1, 9, .inl a_errors))] rfl ?_
                refine V_aload_n hC 4 rfl rfl dX9_open_214 ?_
                refine V_get hC inX9 rfl 0 (by decide) wd_611 0 rfl rfl dX9_open_215 ?_
                refine V_bipush hC 24 dX9_open_218 (by decide) ?_
                refine V_iconst hC 4 dX9_open_220 (by decide) ?_
                refine V_iload hC 0 rfl dX9_open_221 ?_
                refine V_imul hC dX9_open_223 ?_
                refine V_iadd hC dX9_open_224 ?_
                refine V_iconst hC 3 dX9_open_225 (by decide) ?_
                refine V_iadd hC dX9_open_226 ?_
                refine V_aload_n hC 4 rfl rfl dX9_open_227 ?_
                refine V_get hC inX9 rfl 0 (by decide) wd_611 0 rfl rfl dX9_open_228 ?_
                refine V_iconst hC 0 dX9_open_231 (by decide) ?_
                refine V_iald hC 0 (by decide) 1 rfl (by unfold vp_in; decide) dX9_open_232 ?_
                refine V_iast hC _ rfl 1 rfl hw.1 dX9_open_233 (fun f40 ef40 => ?_)
                have hw := hw.2
                have hw := hw f40 ef40
                refine V_ws [(h0, .inr (8, [.ref h1, .ref h2, .int s10, .ref h3, .long n_hash])), (h1, .inl (E.2.1, 404, .inl f40)), (h2, .inl (E.2.1, 1212, .inl g9)), (h3, .inl (E.2.1, 9, .inl a_errors))] rfl ?_
                refine V_iload hC 1 rfl dX9_open_234 ?_
                exact V_iret hC hr ⟨((32768 * (jrem r12 32)) + (4096 * r13)) + r14, f40, g9, s10, a_errors, rfl, rfl, hw⟩ dX9_open_236
      · have hw := hw.2 c8
        refine V_aload_n hC 0 rfl rfl dX9_open_36 ?_
        refine V_bipush hC (-3) dX9_open_37 (by decide) ?_
        refine V_callV hC (wr := []) 1 [.int (-3)] [] (ct_X9_fails l E h0 h1 h2 h3 a_now a_past n_saved a_errors n_hash (-3) _ hw) wd_634 wd_40 wd_631 wd_633 wd_12 (by decide +kernel) rfl ⟨Nat.le_of_ble_eq_true rfl, Nat.le_of_ble_eq_true rfl⟩ [0, 1, 2, 3] [] rfl rfl rfl rfl (by decide) rfl rfl rfl (Nat.le_of_ble_eq_true rfl) ⟨Nat.le_of_ble_eq_true rfl, Nat.le_of_ble_eq_true rfl⟩ dX9_open_39 (fun v ws' hp => ?_)
        obtain ⟨r41, g42, rfl, rfl, hw⟩ := hp
        refine V_cast [(0, .ref h0), (1, .int p1), (2, .int p2), (3, .int p3)] [.int r41] [(h0, .inr (8, [.ref h1, .ref h2, .int n_saved, .ref h3, .long n_hash])), (h1, .inl (E.2.1, 404, .inl a_now)), (h2, .inl (E.2.1, 1212, .inl a_past)), (h3, .inl (E.2.1, 9, .inl g42))] [0, 1, 2, 3] [0, 1, 2, 3] rfl rfl rfl rfl ?_
        exact V_iret hC hr ⟨r41, a_now, a_past, n_saved, g42, rfl, rfl, hw⟩ dX9_open_42
    · have hw := hw.2 c6
      refine V_aload_n hC 0 rfl rfl dX9_open_20 ?_
      refine V_bipush hC (-2) dX9_open_21 (by decide) ?_
      refine V_callV hC (wr := []) 1 [.int (-2)] [] (ct_X9_fails l E h0 h1 h2 h3 a_now a_past n_saved a_errors n_hash (-2) _ hw) wd_634 wd_40 wd_631 wd_633 wd_12 (by decide +kernel) rfl ⟨Nat.le_of_ble_eq_true rfl, Nat.le_of_ble_eq_true rfl⟩ [0, 1, 2, 3] [] rfl rfl rfl rfl (by decide) rfl rfl rfl (Nat.le_of_ble_eq_true rfl) ⟨Nat.le_of_ble_eq_true rfl, Nat.le_of_ble_eq_true rfl⟩ dX9_open_23 (fun v ws' hp => ?_)
      obtain ⟨r43, g44, rfl, rfl, hw⟩ := hp
      refine V_cast [(0, .ref h0), (1, .int p1), (2, .int p2), (3, .int p3)] [.int r43] [(h0, .inr (8, [.ref h1, .ref h2, .int n_saved, .ref h3, .long n_hash])), (h1, .inl (E.2.1, 404, .inl a_now)), (h2, .inl (E.2.1, 1212, .inl a_past)), (h3, .inl (E.2.1, 9, .inl g44))] [0, 1, 2, 3] [0, 1, 2, 3] rfl rfl rfl rfl ?_
      exact V_iret hC hr ⟨r43, a_now, a_past, n_saved, g44, rfl, rfl, hw⟩ dX9_open_26
abbrev po_X9_checks (E : EN) (h0 : Nat) (h1 : Nat) (h2 : Nat) (h3 : Nat) (a_past : Nat → Int32) (n_saved : Int32) (a_errors : Nat → Int32) (n_hash : Int64) (K : Int32 → (Nat → Int32) → Prop) : Option Value → va_W → Prop := fun v ws' => ∃ (r0 : Int32) (a_now : Nat → Int32), v = some (.int r0) ∧ ws' = [(h0, .inr (8, [.ref h1, .ref h2, .int n_saved, .ref h3, .long n_hash])), (h1, .inl (E.2.1, 404, .inl a_now)), (h2, .inl (E.2.1, 1212, .inl a_past)), (h3, .inl (E.2.1, 9, .inl a_errors))] ∧ K r0 a_now
def wpl_X9_checks_159 (a_past : Nat → Int32) (n_saved : Int32) (a_errors : Nat → Int32) (n_hash : Int64) (K : Int32 → (Nat → Int32) → Prop) : Nat → Int32 → Int32 → Int32 → Int32 → Int32 → Int32 → (Nat → Int32) → Prop
  | 0, _, _, _, _, _, _, _ => False
  | n9 + 1, x1, x2, x3, x4, x5, x6, a_now => (((a_now 4) ≤ x6 → K 0 a_now) ∧ (¬ ((a_now 4) ≤ x6) → (vp_in (168 + (3 * x6)) 404 ∧ ((¬ (a_now (Int32.toNatClampNeg (168 + (3 * x6)))) = x3 → wpl_X9_checks_159 a_past n_saved a_errors n_hash K n9 x1 x2 x3 x4 x5 (x6 + 1) a_now) ∧ ((a_now (Int32.toNatClampNeg (168 + (3 * x6)))) = x3 → (vp_in ((168 + (3 * x6)) + 1) 404 ∧ ((¬ (a_now (Int32.toNatClampNeg ((168 + (3 * x6)) + 1))) = x1 → wpl_X9_checks_159 a_past n_saved a_errors n_hash K n9 x1 x2 x3 x4 x5 (x6 + 1) a_now) ∧ ((a_now (Int32.toNatClampNeg ((168 + (3 * x6)) + 1))) = x1 → (vp_in ((168 + (3 * x6)) + 2) 404 ∧ ((¬ (a_now (Int32.toNatClampNeg ((168 + (3 * x6)) + 2))) = x2 → wpl_X9_checks_159 a_past n_saved a_errors n_hash K n9 x1 x2 x3 x4 x5 (x6 + 1) a_now) ∧ ((a_now (Int32.toNatClampNeg ((168 + (3 * x6)) + 2))) = x2 → K (-8) a_now)))))))))))
set_option maxRecDepth 100000 in
set_option maxHeartbeats 4000000 in
theorem bl_X9_checks_159 {p : Program} {l : Launch} {e : Env} {s : State} {m : MethodId} {args : Array Value} {below : List Frame} {meth : Method} {c : Code} {E : EN} {A : Nat → Prop} (hC : Cx p s m args meth c E A cX9_checks 8 "CookieServerModel") (hr : meth.sig.returnType = some .int) (h0 : Nat) (h1 : Nat) (h2 : Nat) (h3 : Nat) (a_past : Nat → Int32) (n_saved : Int32) (a_errors : Nat → Int32) (n_hash : Int64) (K : Int32 → (Nat → Int32) → Prop) : ∀ (n8 : Nat) (x1 : Int32) (x2 : Int32) (x3 : Int32) (x4 : Int32) (x5 : Int32) (x6 : Int32) (a_now : Nat → Int32), wpl_X9_checks_159 a_past n_saved a_errors n_hash K n8 x1 x2 x3 x4 x5 x6 a_now → V p l e { frames := 2, cells := 0, slots := 0, locals := 47 } s m args below meth c E A 8 0 0 (MQ below (QP E (po_X9_checks E h0 h1 h2 h3 a_past n_saved a_errors n_hash K) A) args s 0 0 A) 159 [(0, .ref h0), (1, .int x1), (2, .int x2), (3, .int x3), (4, .int x4), (5, .int x5), (6, .int x6)] [] [(h0, .inr (8, [.ref h1, .ref h2, .int n_saved, .ref h3, .long n_hash])), (h1, .inl (E.2.1, 404, .inl a_now)), (h2, .inl (E.2.1, 1212, .inl a_past)), (h3, .inl (E.2.1, 9, .inl a_errors))] := by
  intro n8
  induction n8 with
  | zero => intro x1 x2 x3 x4 x5 x6 a_now hw; rw [wpl_X9_checks_159] at hw; exact hw.elim
  | succ n9 ih =>
    intro x1 x2 x3 x4 x5 x6 a_now hw
    rw [wpl_X9_checks_159] at hw
    refine V_iload hC 6 rfl dX9_checks_159 ?_
    refine V_aload_n hC 0 rfl rfl dX9_checks_161 ?_
    refine V_get hC inX9 rfl 0 (by decide) wd_611 0 rfl rfl dX9_checks_162 ?_
    refine V_iconst hC 4 dX9_checks_165 (by decide) ?_
    refine V_iald hC 4 (by decide) 1 rfl (by unfold vp_in; decide) dX9_checks_166 ?_
    refine V_icmp_ge hC 226 (by decide) dX9_checks_167 (fun c16 => ?_) (fun c16 => ?_)
    · have hw := hw.1 c16
      refine V_iconst hC 0 dX9_checks_226 (by decide) ?_
      exact V_iret hC hr ⟨0, a_now, rfl, rfl, hw⟩ dX9_checks_227
    · have hw := hw.2 c16
      refine V_sipush hC 168 dX9_checks_170 (by decide) ?_
      refine V_iconst hC 3 dX9_checks_173 (by decide) ?_
      refine V_iload hC 6 rfl dX9_checks_174 ?_
      refine V_imul hC dX9_checks_176 ?_
      refine V_iadd hC dX9_checks_177 ?_
      refine V_istore hC [(7, .int (168 + (3 * x6))), (0, .ref h0), (1, .int x1), (2, .int x2), (3, .int x3), (4, .int x4), (5, .int x5), (6, .int x6)] (by decide) rfl dX9_checks_178 ?_
      refine V_aload_n hC 1 rfl rfl dX9_checks_180 ?_
      refine V_get hC inX9 rfl 0 (by decide) wd_611 0 rfl rfl dX9_checks_181 ?_
      refine V_iload hC 0 rfl dX9_checks_184 ?_
      refine V_iald hC _ rfl 1 rfl hw.1 dX9_checks_186 ?_
      have hw := hw.2
      refine V_iload_n hC 4 rfl rfl dX9_checks_187 ?_
      refine V_icmp_ne hC 220 (by decide) dX9_checks_188 (fun c17 => ?_) (fun c17 => ?_)
      · have hw := hw.1 c17
        refine V_iinc hC (x6 + 1) 7 [(6, .int (x6 + 1)), (7, .int (168 + (3 * x6))), (0, .ref h0), (1, .int x1), (2, .int x2), (3, .int x3), (4, .int x4), (5, .int x5)] rfl (congrArg (fun z => x6 + z) (by decide : Int32.ofInt (1) = (1 : Int32))) (by decide) rfl dX9_checks_220 ?_
        refine V_goto hC 159 (by decide) dX9_checks_223 ?_
        refine V_cast [(0, .ref h0), (1, .int x1), (2, .int x2), (3, .int x3), (4, .int x4), (5, .int x5), (6, .int (x6 + 1))] [] [(h0, .inr (8, [.ref h1, .ref h2, .int n_saved, .ref h3, .long n_hash])), (h1, .inl (E.2.1, 404, .inl a_now)), (h2, .inl (E.2.1, 1212, .inl a_past)), (h3, .inl (E.2.1, 9, .inl a_errors))] [2, 3, 4, 5, 6, 7, 0] [0, 1, 2, 3] rfl rfl rfl rfl ?_
        exact ih x1 x2 x3 x4 x5 (x6 + 1) a_now hw
      · have hw := hw.2 c17
        refine V_aload_n hC 1 rfl rfl dX9_checks_191 ?_
        refine V_get hC inX9 rfl 0 (by decide) wd_611 0 rfl rfl dX9_checks_192 ?_
        refine V_iload hC 0 rfl dX9_checks_195 ?_
        refine V_iconst hC 1 dX9_checks_197 (by decide) ?_
        refine V_iadd hC dX9_checks_198 ?_
        refine V_iald hC _ rfl 1 rfl hw.1 dX9_checks_199 ?_
        have hw := hw.2
        refine V_iload_n hC 2 rfl rfl dX9_checks_200 ?_
        refine V_icmp_ne hC 220 (by decide) dX9_checks_201 (fun c18 => ?_) (fun c18 => ?_)
        · have hw := hw.1 c18
          refine V_iinc hC (x6 + 1) 7 [(6, .int (x6 + 1)), (7, .int (168 + (3 * x6))), (0, .ref h0), (1, .int x1), (2, .int x2), (3, .int x3), (4, .int x4), (5, .int x5)] rfl (congrArg (fun z => x6 + z) (by decide : Int32.ofInt (1) = (1 : Int32))) (by decide) rfl dX9_checks_220 ?_
          refine V_goto hC 159 (by decide) dX9_checks_223 ?_
          refine V_cast [(0, .ref h0), (1, .int x1), (2, .int x2), (3, .int x3), (4, .int x4), (5, .int x5), (6, .int (x6 + 1))] [] [(h0, .inr (8, [.ref h1, .ref h2, .int n_saved, .ref h3, .long n_hash])), (h1, .inl (E.2.1, 404, .inl a_now)), (h2, .inl (E.2.1, 1212, .inl a_past)), (h3, .inl (E.2.1, 9, .inl a_errors))] [2, 3, 4, 5, 6, 7, 0] [0, 1, 2, 3] rfl rfl rfl rfl ?_
          exact ih x1 x2 x3 x4 x5 (x6 + 1) a_now hw
        · have hw := hw.2 c18
          refine V_aload_n hC 1 rfl rfl dX9_checks_204 ?_
          refine V_get hC inX9 rfl 0 (by decide) wd_611 0 rfl rfl dX9_checks_205 ?_
          refine V_iload hC 0 rfl dX9_checks_208 ?_
          refine V_iconst hC 2 dX9_checks_210 (by decide) ?_
          refine V_iadd hC dX9_checks_211 ?_
          refine V_iald hC _ rfl 1 rfl hw.1 dX9_checks_212 ?_
          have hw := hw.2
          refine V_iload_n hC 3 rfl rfl dX9_checks_213 ?_
          refine V_icmp_ne hC 220 (by decide) dX9_checks_214 (fun c19 => ?_) (fun c19 => ?_)
          · have hw := hw.1 c19
            refine V_iinc hC (x6 + 1) 7 [(6, .int (x6 + 1)), (7, .int (168 + (3 * x6))), (0, .ref h0), (1, .int x1), (2, .int x2), (3, .int x3), (4, .int x4), (5, .int x5)] rfl (congrArg (fun z => x6 + z) (by decide : Int32.ofInt (1) = (1 : Int32))) (by decide) rfl dX9_checks_220 ?_
            refine V_goto hC 159 (by decide) dX9_checks_223 ?_
            refine V_cast [(0, .ref h0), (1, .int x1), (2, .int x2), (3, .int x3), (4, .int x4), (5, .int x5), (6, .int (x6 + 1))] [] [(h0, .inr (8, [.ref h1, .ref h2, .int n_saved, .ref h3, .long n_hash])), (h1, .inl (E.2.1, 404, .inl a_now)), (h2, .inl (E.2.1, 1212, .inl a_past)), (h3, .inl (E.2.1, 9, .inl a_errors))] [2, 3, 4, 5, 6, 7, 0] [0, 1, 2, 3] rfl rfl rfl rfl ?_
            exact ih x1 x2 x3 x4 x5 (x6 + 1) a_now hw
          · have hw := hw.2 c19
            refine V_bipush hC (-8) dX9_checks_217 (by decide) ?_
            exact V_iret hC hr ⟨(-8), a_now, rfl, rfl, hw⟩ dX9_checks_219
def wp_X9_checks (a_now : Nat → Int32) (a_past : Nat → Int32) (n_saved : Int32) (a_errors : Nat → Int32) (n_hash : Int64) (p1 : Int32) (p2 : Int32) (p3 : Int32) (p4 : Int32) (K : Int32 → (Nat → Int32) → Prop) : Prop := (wp_X9_ageOf a_now a_past n_saved a_errors n_hash p3 (fun (r1 : Int32) => ((r1 ≤ 1 → (wp_X9_difficultyNow a_now a_past n_saved a_errors n_hash (fun (r3 : Int32) => ((r3 ≤ 0 → (∀ f5 : Nat → Int32, f5 = upd a_now 5 ((a_now 5) + 1) → (wp_X9_stampOf p3 (fun (r6 : Int32) => (wp_X9_optionOf p3 (fun (r7 : Int32) => (wp_X9_markOf p1 p2 r6 r7 (f5 1) (fun (r8 : Int32) => ((¬ (jrem p3 4096) = r8 → (((f5 2) = (-1) → K (-7) f5) ∧ (¬ ((f5 2) = (-1)) → (∀ f11 : Nat → Int32, f11 = upd f5 5 ((f5 5) + 1) → (wp_X9_stampOf p3 (fun (r12 : Int32) => (wp_X9_optionOf p3 (fun (r13 : Int32) => (wp_X9_markOf p1 p2 r12 r13 (f11 2) (fun (r14 : Int32) => ((¬ (jrem p3 4096) = r14 → K (-7) f11) ∧ ((jrem p3 4096) = r14 → (∃ n8 : Nat, wpl_X9_checks_159 a_past n_saved a_errors n_hash K n8 p1 p2 p3 p4 1 0 f11))))))))))))) ∧ ((jrem p3 4096) = r8 → (∃ n8 : Nat, wpl_X9_checks_159 a_past n_saved a_errors n_hash K n8 p1 p2 p3 p4 1 0 f5))))))))))) ∧ (¬ (r3 ≤ 0) → (∀ f20 : Nat → Int32, f20 = upd a_now 5 ((a_now 5) + 1) → (wp_X9_difficultyNow f20 a_past n_saved a_errors n_hash (fun (r21 : Int32) => (wp_X9_isSolution p3 p4 r21 (fun (r22 : Int32) => ((¬ r22 = 0 → (∀ f24 : Nat → Int32, f24 = upd f20 5 ((f20 5) + 1) → (wp_X9_stampOf p3 (fun (r25 : Int32) => (wp_X9_optionOf p3 (fun (r26 : Int32) => (wp_X9_markOf p1 p2 r25 r26 (f24 1) (fun (r27 : Int32) => ((¬ (jrem p3 4096) = r27 → (((f24 2) = (-1) → K (-7) f24) ∧ (¬ ((f24 2) = (-1)) → (∀ f30 : Nat → Int32, f30 = upd f24 5 ((f24 5) + 1) → (wp_X9_stampOf p3 (fun (r31 : Int32) => (wp_X9_optionOf p3 (fun (r32 : Int32) => (wp_X9_markOf p1 p2 r31 r32 (f30 2) (fun (r33 : Int32) => ((¬ (jrem p3 4096) = r33 → K (-7) f30) ∧ ((jrem p3 4096) = r33 → (∃ n8 : Nat, wpl_X9_checks_159 a_past n_saved a_errors n_hash K n8 p1 p2 p3 p4 1 0 f30))))))))))))) ∧ ((jrem p3 4096) = r27 → (∃ n8 : Nat, wpl_X9_checks_159 a_past n_saved a_errors n_hash K n8 p1 p2 p3 p4 1 0 f24))))))))))) ∧ (r22 = 0 → K (-6) f20)))))))))))) ∧ (¬ (r1 ≤ 1) → K (-5) a_now))))
set_option maxRecDepth 100000 in
set_option maxHeartbeats 4000000 in
theorem ct_X9_checks (l : Launch) (E : EN) (h0 : Nat) (h1 : Nat) (h2 : Nat) (h3 : Nat) (a_now : Nat → Int32) (a_past : Nat → Int32) (n_saved : Int32) (a_errors : Nat → Int32) (n_hash : Int64) (p1 : Int32) (p2 : Int32) (p3 : Int32) (p4 : Int32) (K : Int32 → (Nat → Int32) → Prop) (hw : wp_X9_checks a_now a_past n_saved a_errors n_hash p1 p2 p3 p4 K) : Con l yX9_checks cX9_checks 8 (some .int) { frames := 2, cells := 0, slots := 0, locals := 47 } E [.ref h0, .int p1, .int p2, .int p3, .int p4] [(h0, .inr (8, [.ref h1, .ref h2, .int n_saved, .ref h3, .long n_hash])), (h1, .inl (E.2.1, 404, .inl a_now)), (h2, .inl (E.2.1, 1212, .inl a_past)), (h3, .inl (E.2.1, 9, .inl a_errors))] (po_X9_checks E h0 h1 h2 h3 a_past n_saved a_errors n_hash K) := by
  refine Con.mk (by decide +kernel) (Nat.le_of_ble_eq_true rfl) ?_
  intro p e s m below meth c A hC hr hin
  have hC : Cx p s m _ meth c E A cX9_checks 8 "CookieServerModel" := hC
  rw [wp_X9_checks] at hw
  refine V_cast [(0, .ref h0), (1, .int p1), (2, .int p2), (3, .int p3), (4, .int p4)] [] [(h0, .inr (8, [.ref h1, .ref h2, .int n_saved, .ref h3, .long n_hash])), (h1, .inl (E.2.1, 404, .inl a_now)), (h2, .inl (E.2.1, 1212, .inl a_past)), (h3, .inl (E.2.1, 9, .inl a_errors))] [0, 1, 2, 3, 4] [0, 1, 2, 3] rfl rfl rfl rfl ?_
  refine V_aload_n hC 0 rfl rfl dX9_checks_0 ?_
  refine V_iload_n hC 3 rfl rfl dX9_checks_1 ?_
  refine V_callV hC (wr := []) 1 [.int p3] [] (ct_X9_ageOf l E h0 h1 h2 h3 a_now a_past n_saved a_errors n_hash p3 _ hw) wd_657 wd_40 wd_654 wd_656 wd_16 (by decide +kernel) rfl ⟨Nat.le_of_ble_eq_true rfl, Nat.le_of_ble_eq_true rfl⟩ [0, 1, 2, 3] [] rfl rfl rfl rfl (by decide) rfl rfl rfl (Nat.le_of_ble_eq_true rfl) ⟨Nat.le_of_ble_eq_true rfl, Nat.le_of_ble_eq_true rfl⟩ dX9_checks_2 (fun v ws' hp => ?_)
  obtain ⟨r1, rfl, rfl, hw⟩ := hp
  refine V_cast [(0, .ref h0), (1, .int p1), (2, .int p2), (3, .int p3), (4, .int p4)] [.int r1] [(h0, .inr (8, [.ref h1, .ref h2, .int n_saved, .ref h3, .long n_hash])), (h1, .inl (E.2.1, 404, .inl a_now)), (h2, .inl (E.2.1, 1212, .inl a_past)), (h3, .inl (E.2.1, 9, .inl a_errors))] [0, 1, 2, 3, 4] [0, 1, 2, 3] rfl rfl rfl rfl ?_
  refine V_iconst hC 1 dX9_checks_5 (by decide) ?_
  refine V_icmp_le hC 12 (by decide) dX9_checks_6 (fun c2 => ?_) (fun c2 => ?_)
  · have hw := hw.1 c2
    refine V_aload_n hC 0 rfl rfl dX9_checks_12 ?_
    refine V_callV hC (wr := []) 0 [] [] (ct_X9_difficultyNow l E h0 h1 h2 h3 a_now a_past n_saved a_errors n_hash _ hw) wd_732 wd_40 wd_729 wd_731 wd_24 (by decide +kernel) rfl ⟨Nat.le_of_ble_eq_true rfl, Nat.le_of_ble_eq_true rfl⟩ [0, 1, 2, 3] [] rfl rfl rfl rfl (by decide) rfl rfl rfl (Nat.le_of_ble_eq_true rfl) ⟨Nat.le_of_ble_eq_true rfl, Nat.le_of_ble_eq_true rfl⟩ dX9_checks_13 (fun v ws' hp => ?_)
    obtain ⟨r3, rfl, rfl, hw⟩ := hp
    refine V_cast [(0, .ref h0), (1, .int p1), (2, .int p2), (3, .int p3), (4, .int p4)] [.int r3] [(h0, .inr (8, [.ref h1, .ref h2, .int n_saved, .ref h3, .long n_hash])), (h1, .inl (E.2.1, 404, .inl a_now)), (h2, .inl (E.2.1, 1212, .inl a_past)), (h3, .inl (E.2.1, 9, .inl a_errors))] [0, 1, 2, 3, 4] [0, 1, 2, 3] rfl rfl rfl rfl ?_
    refine V_if_le hC 45 (by decide) dX9_checks_16 (fun c4 => ?_) (fun c4 => ?_)
    · have hw := hw.1 c4
      refine V_aload_n hC 0 rfl rfl dX9_checks_45 ?_
      refine V_get hC inX9 rfl 0 (by decide) wd_611 0 rfl rfl dX9_checks_46 ?_
      refine V_iconst hC 5 dX9_checks_49 (by decide) ?_
      refine V_dup2 hC rfl rfl dX9_checks_50 ?_
      refine V_iald hC 5 (by decide) 1 rfl (by unfold vp_in; decide) dX9_checks_51 ?_
      refine V_iconst hC 1 dX9_checks_52 (by decide) ?_
      refine V_iadd hC dX9_checks_53 ?_
      refine V_iast hC 5 (by decide) 1 rfl (by unfold vp_in; decide) dX9_checks_54 (fun f5 ef5 => ?_)
      have hw := hw f5 ef5
      refine V_ws [(h0, .inr (8, [.ref h1, .ref h2, .int n_saved, .ref h3, .long n_hash])), (h1, .inl (E.2.1, 404, .inl f5)), (h2, .inl (E.2.1, 1212, .inl a_past)), (h3, .inl (E.2.1, 9, .inl a_errors))] rfl ?_
      refine V_iload_n hC 3 rfl rfl dX9_checks_55 ?_
      refine V_sipush hC 4096 dX9_checks_56 (by decide) ?_
      refine V_irem hC (by decide) dX9_checks_59 ?_
      refine V_iload_n hC 1 rfl rfl dX9_checks_60 ?_
      refine V_iload_n hC 2 rfl rfl dX9_checks_61 ?_
      refine V_iload_n hC 3 rfl rfl dX9_checks_62 ?_
      refine V_callS hC (wr := [(h0, .inr (8, [.ref h1, .ref h2, .int n_saved, .ref h3, .long n_hash])), (h1, .inl (E.2.1, 404, .inl f5)), (h2, .inl (E.2.1, 1212, .inl a_past)), (h3, .inl (E.2.1, 9, .inl a_errors))]) 1 [.int p3] [.int p2, .int p1, .int (jrem p3 4096)] (ct_X9_stampOf l E p3 _ hw) wd_664 wd_40 wd_662 wd_663 (by decide +kernel) rfl ⟨Nat.le_of_ble_eq_true rfl, Nat.le_of_ble_eq_true rfl⟩ [] [0, 1, 2, 3] rfl rfl rfl rfl (by decide) rfl (Nat.le_of_ble_eq_true rfl) ⟨Nat.le_of_ble_eq_true rfl, Nat.le_of_ble_eq_true rfl⟩ dX9_checks_63 (fun v ws' hp => ?_)
      obtain ⟨r6, rfl, rfl, hw⟩ := hp
      refine V_cast [(0, .ref h0), (1, .int p1), (2, .int p2), (3, .int p3), (4, .int p4)] [.int r6, .int p2, .int p1, .int (jrem p3 4096)] [(h0, .inr (8, [.ref h1, .ref h2, .int n_saved, .ref h3, .long n_hash])), (h1, .inl (E.2.1, 404, .inl f5)), (h2, .inl (E.2.1, 1212, .inl a_past)), (h3, .inl (E.2.1, 9, .inl a_errors))] [0, 1, 2, 3, 4] [0, 1, 2, 3] rfl rfl rfl rfl ?_
      refine V_iload_n hC 3 rfl rfl dX9_checks_66 ?_
      refine V_callS hC (wr := [(h0, .inr (8, [.ref h1, .ref h2, .int n_saved, .ref h3, .long n_hash])), (h1, .inl (E.2.1, 404, .inl f5)), (h2, .inl (E.2.1, 1212, .inl a_past)), (h3, .inl (E.2.1, 9, .inl a_errors))]) 1 [.int p3] [.int r6, .int p2, .int p1, .int (jrem p3 4096)] (ct_X9_optionOf l E p3 _ hw) wd_739 wd_40 wd_737 wd_738 (by decide +kernel) rfl ⟨Nat.le_of_ble_eq_true rfl, Nat.le_of_ble_eq_true rfl⟩ [] [0, 1, 2, 3] rfl rfl rfl rfl (by decide) rfl (Nat.le_of_ble_eq_true rfl) ⟨Nat.le_of_ble_eq_true rfl, Nat.le_of_ble_eq_true rfl⟩ dX9_checks_67 (fun v ws' hp => ?_)
      obtain ⟨r7, rfl, rfl, hw⟩ := hp
      refine V_cast [(0, .ref h0), (1, .int p1), (2, .int p2), (3, .int p3), (4, .int p4)] [.int r7, .int r6, .int p2, .int p1, .int (jrem p3 4096)] [(h0, .inr (8, [.ref h1, .ref h2, .int n_saved, .ref h3, .long n_hash])), (h1, .inl (E.2.1, 404, .inl f5)), (h2, .inl (E.2.1, 1212, .inl a_past)), (h3, .inl (E.2.1, 9, .inl a_errors))] [0, 1, 2, 3, 4] [0, 1, 2, 3] rfl rfl rfl rfl ?_
      refine V_aload_n hC 0 rfl rfl dX9_checks_70 ?_
      refine V_get hC inX9 rfl 0 (by decide) wd_611 0 rfl rfl dX9_checks_71 ?_
      refine V_iconst hC 1 dX9_checks_74 (by decide) ?_
      refine V_iald hC 1 (by decide) 1 rfl (by unfold vp_in; decide) dX9_checks_75 ?_
      refine V_callS hC (wr := [(h0, .inr (8, [.ref h1, .ref h2, .int n_saved, .ref h3, .long n_hash])), (h1, .inl (E.2.1, 404, .inl f5)), (h2, .inl (E.2.1, 1212, .inl a_past)), (h3, .inl (E.2.1, 9, .inl a_errors))]) 5 [.int p1, .int p2, .int r6, .int r7, .int (f5 1)] [.int (jrem p3 4096)] (ct_X9_markOf l E p1 p2 r6 r7 (f5 1) _ hw) wd_694 wd_40 wd_692 wd_693 (by decide +kernel) rfl ⟨Nat.le_of_ble_eq_true rfl, Nat.le_of_ble_eq_true rfl⟩ [] [0, 1, 2, 3] rfl rfl rfl rfl (by decide) rfl (Nat.le_of_ble_eq_true rfl) ⟨Nat.le_of_ble_eq_true rfl, Nat.le_of_ble_eq_true rfl⟩ dX9_checks_76 (fun v ws' hp => ?_)
      obtain ⟨r8, rfl, rfl, hw⟩ := hp
      refine V_cast [(0, .ref h0), (1, .int p1), (2, .int p2), (3, .int p3), (4, .int p4)] [.int r8, .int (jrem p3 4096)] [(h0, .inr (8, [.ref h1, .ref h2, .int n_saved, .ref h3, .long n_hash])), (h1, .inl (E.2.1, 404, .inl f5)), (h2, .inl (E.2.1, 1212, .inl a_past)), (h3, .inl (E.2.1, 9, .inl a_errors))] [0, 1, 2, 3, 4] [0, 1, 2, 3] rfl rfl rfl rfl ?_
      refine V_icmp_ne hC 86 (by decide) dX9_checks_79 (fun c9 => ?_) (fun c9 => ?_)
      · have hw := hw.1 c9
        refine V_iconst hC 0 dX9_checks_86 (by decide) ?_
        refine V_istore hC [(5, .int 0), (0, .ref h0), (1, .int p1), (2, .int p2), (3, .int p3), (4, .int p4)] (by decide) rfl dX9_checks_87 ?_
        refine V_iload hC 0 rfl dX9_checks_89 ?_
        refine V_if_ne hC 148 (by decide) dX9_checks_91 (fun c => absurd (by decide) c) (fun c => ?_)
        refine V_aload_n hC 1 rfl rfl dX9_checks_94 ?_
        refine V_get hC inX9 rfl 0 (by decide) wd_611 0 rfl rfl dX9_checks_95 ?_
        refine V_iconst hC 2 dX9_checks_98 (by decide) ?_
        refine V_iald hC 2 (by decide) 1 rfl (by unfold vp_in; decide) dX9_checks_99 ?_
        refine V_iconst hC (-1) dX9_checks_100 (by decide) ?_
        refine V_icmp_eq hC 148 (by decide) dX9_checks_101 (fun c10 => ?_) (fun c10 => ?_)
        · have hw := hw.1 c10
          refine V_iload hC 0 rfl dX9_checks_148 ?_
          refine V_if_ne hC 156 (by decide) dX9_checks_150 (fun c => absurd (by decide) c) (fun c => ?_)
          refine V_bipush hC (-7) dX9_checks_153 (by decide) ?_
          exact V_iret hC hr ⟨(-7), f5, rfl, rfl, hw⟩ dX9_checks_155
        · have hw := hw.2 c10
          refine V_aload_n hC 1 rfl rfl dX9_checks_104 ?_
          refine V_get hC inX9 rfl 0 (by decide) wd_611 0 rfl rfl dX9_checks_105 ?_
          refine V_iconst hC 5 dX9_checks_108 (by decide) ?_
          refine V_dup2 hC rfl rfl dX9_checks_109 ?_
          refine V_iald hC 5 (by decide) 1 rfl (by unfold vp_in; decide) dX9_checks_110 ?_
          refine V_iconst hC 1 dX9_checks_111 (by decide) ?_
          refine V_iadd hC dX9_checks_112 ?_
          refine V_iast hC 5 (by decide) 1 rfl (by unfold vp_in; decide) dX9_checks_113 (fun f11 ef11 => ?_)
          have hw := hw f11 ef11
          refine V_ws [(h0, .inr (8, [.ref h1, .ref h2, .int n_saved, .ref h3, .long n_hash])), (h1, .inl (E.2.1, 404, .inl f11)), (h2, .inl (E.2.1, 1212, .inl a_past)), (h3, .inl (E.2.1, 9, .inl a_errors))] rfl ?_
          refine V_iload_n hC 4 rfl rfl dX9_checks_114 ?_
          refine V_sipush hC 4096 dX9_checks_115 (by decide) ?_
          refine V_irem hC (by decide) dX9_checks_118 ?_
          refine V_iload_n hC 2 rfl rfl dX9_checks_119 ?_
          refine V_iload_n hC 3 rfl rfl dX9_checks_120 ?_
          refine V_iload_n hC 4 rfl rfl dX9_checks_121 ?_
          refine V_callS hC (wr := [(h0, .inr (8, [.ref h1, .ref h2, .int n_saved, .ref h3, .long n_hash])), (h1, .inl (E.2.1, 404, .inl f11)), (h2, .inl (E.2.1, 1212, .inl a_past)), (h3, .inl (E.2.1, 9, .inl a_errors))]) 1 [.int p3] [.int p2, .int p1, .int (jrem p3 4096)] (ct_X9_stampOf l E p3 _ hw) wd_664 wd_40 wd_662 wd_663 (by decide +kernel) rfl ⟨Nat.le_of_ble_eq_true rfl, Nat.le_of_ble_eq_true rfl⟩ [] [0, 1, 2, 3] rfl rfl rfl rfl (by decide) rfl (Nat.le_of_ble_eq_true rfl) ⟨Nat.le_of_ble_eq_true rfl, Nat.le_of_ble_eq_true rfl⟩ dX9_checks_122 (fun v ws' hp => ?_)
          obtain ⟨r12, rfl, rfl, hw⟩ := hp
          refine V_cast [(5, .int 0), (0, .ref h0), (1, .int p1), (2, .int p2), (3, .int p3), (4, .int p4)] [.int r12, .int p2, .int p1, .int (jrem p3 4096)] [(h0, .inr (8, [.ref h1, .ref h2, .int n_saved, .ref h3, .long n_hash])), (h1, .inl (E.2.1, 404, .inl f11)), (h2, .inl (E.2.1, 1212, .inl a_past)), (h3, .inl (E.2.1, 9, .inl a_errors))] [0, 1, 2, 3, 4, 5] [0, 1, 2, 3] rfl rfl rfl rfl ?_
          refine V_iload_n hC 4 rfl rfl dX9_checks_125 ?_
          refine V_callS hC (wr := [(h0, .inr (8, [.ref h1, .ref h2, .int n_saved, .ref h3, .long n_hash])), (h1, .inl (E.2.1, 404, .inl f11)), (h2, .inl (E.2.1, 1212, .inl a_past)), (h3, .inl (E.2.1, 9, .inl a_errors))]) 1 [.int p3] [.int r12, .int p2, .int p1, .int (jrem p3 4096)] (ct_X9_optionOf l E p3 _ hw) wd_739 wd_40 wd_737 wd_738 (by decide +kernel) rfl ⟨Nat.le_of_ble_eq_true rfl, Nat.le_of_ble_eq_true rfl⟩ [] [0, 1, 2, 3] rfl rfl rfl rfl (by decide) rfl (Nat.le_of_ble_eq_true rfl) ⟨Nat.le_of_ble_eq_true rfl, Nat.le_of_ble_eq_true rfl⟩ dX9_checks_126 (fun v ws' hp => ?_)
          obtain ⟨r13, rfl, rfl, hw⟩ := hp
          refine V_cast [(5, .int 0), (0, .ref h0), (1, .int p1), (2, .int p2), (3, .int p3), (4, .int p4)] [.int r13, .int r12, .int p2, .int p1, .int (jrem p3 4096)] [(h0, .inr (8, [.ref h1, .ref h2, .int n_saved, .ref h3, .long n_hash])), (h1, .inl (E.2.1, 404, .inl f11)), (h2, .inl (E.2.1, 1212, .inl a_past)), (h3, .inl (E.2.1, 9, .inl a_errors))] [0, 1, 2, 3, 4, 5] [0, 1, 2, 3] rfl rfl rfl rfl ?_
          refine V_aload_n hC 1 rfl rfl dX9_checks_129 ?_
          refine V_get hC inX9 rfl 0 (by decide) wd_611 0 rfl rfl dX9_checks_130 ?_
          refine V_iconst hC 2 dX9_checks_133 (by decide) ?_
          refine V_iald hC 2 (by decide) 1 rfl (by unfold vp_in; decide) dX9_checks_134 ?_
          refine V_callS hC (wr := [(h0, .inr (8, [.ref h1, .ref h2, .int n_saved, .ref h3, .long n_hash])), (h1, .inl (E.2.1, 404, .inl f11)), (h2, .inl (E.2.1, 1212, .inl a_past)), (h3, .inl (E.2.1, 9, .inl a_errors))]) 5 [.int p1, .int p2, .int r12, .int r13, .int (f11 2)] [.int (jrem p3 4096)] (ct_X9_markOf l E p1 p2 r12 r13 (f11 2) _ hw) wd_694 wd_40 wd_692 wd_693 (by decide +kernel) rfl ⟨Nat.le_of_ble_eq_true rfl, Nat.le_of_ble_eq_true rfl⟩ [] [0, 1, 2, 3] rfl rfl rfl rfl (by decide) rfl (Nat.le_of_ble_eq_true rfl) ⟨Nat.le_of_ble_eq_true rfl, Nat.le_of_ble_eq_true rfl⟩ dX9_checks_135 (fun v ws' hp => ?_)
          obtain ⟨r14, rfl, rfl, hw⟩ := hp
          refine V_cast [(5, .int 0), (0, .ref h0), (1, .int p1), (2, .int p2), (3, .int p3), (4, .int p4)] [.int r14, .int (jrem p3 4096)] [(h0, .inr (8, [.ref h1, .ref h2, .int n_saved, .ref h3, .long n_hash])), (h1, .inl (E.2.1, 404, .inl f11)), (h2, .inl (E.2.1, 1212, .inl a_past)), (h3, .inl (E.2.1, 9, .inl a_errors))] [0, 1, 2, 3, 4, 5] [0, 1, 2, 3] rfl rfl rfl rfl ?_
          refine V_icmp_ne hC 145 (by decide) dX9_checks_138 (fun c15 => ?_) (fun c15 => ?_)
          · have hw := hw.1 c15
            refine V_iconst hC 0 dX9_checks_145 (by decide) ?_
            refine V_istore hC [(5, .int 0), (0, .ref h0), (1, .int p1), (2, .int p2), (3, .int p3), (4, .int p4)] (by decide) rfl dX9_checks_146 ?_
            refine V_iload hC 0 rfl dX9_checks_148 ?_
            refine V_if_ne hC 156 (by decide) dX9_checks_150 (fun c => absurd (by decide) c) (fun c => ?_)
            refine V_bipush hC (-7) dX9_checks_153 (by decide) ?_
            exact V_iret hC hr ⟨(-7), f11, rfl, rfl, hw⟩ dX9_checks_155
          · have hw := hw.2 c15
            refine V_iconst hC 1 dX9_checks_141 (by decide) ?_
            refine V_goto hC 146 (by decide) dX9_checks_142 ?_
            refine V_istore hC [(5, .int 1), (0, .ref h0), (1, .int p1), (2, .int p2), (3, .int p3), (4, .int p4)] (by decide) rfl dX9_checks_146 ?_
            refine V_iload hC 0 rfl dX9_checks_148 ?_
            refine V_if_ne hC 156 (by decide) dX9_checks_150 (fun c => ?_) (fun c => absurd c (by decide))
            refine V_iconst hC 0 dX9_checks_156 (by decide) ?_
            refine V_istore hC [(6, .int 0), (5, .int 1), (0, .ref h0), (1, .int p1), (2, .int p2), (3, .int p3), (4, .int p4)] (by decide) rfl dX9_checks_157 ?_
            refine V_cast [(0, .ref h0), (1, .int p1), (2, .int p2), (3, .int p3), (4, .int p4), (5, .int 1), (6, .int 0)] [] [(h0, .inr (8, [.ref h1, .ref h2, .int n_saved, .ref h3, .long n_hash])), (h1, .inl (E.2.1, 404, .inl f11)), (h2, .inl (E.2.1, 1212, .inl a_past)), (h3, .inl (E.2.1, 9, .inl a_errors))] [2, 3, 4, 5, 6, 1, 0] [0, 1, 2, 3] rfl rfl rfl rfl ?_
            obtain ⟨n8, hw⟩ := hw
            exact bl_X9_checks_159 hC hr h0 h1 h2 h3 a_past n_saved a_errors n_hash K n8 p1 p2 p3 p4 1 0 f11 hw
      · have hw := hw.2 c9
        refine V_iconst hC 1 dX9_checks_82 (by decide) ?_
        refine V_goto hC 87 (by decide) dX9_checks_83 ?_
        refine V_istore hC [(5, .int 1), (0, .ref h0), (1, .int p1), (2, .int p2), (3, .int p3), (4, .int p4)] (by decide) rfl dX9_checks_87 ?_
        refine V_iload hC 0 rfl dX9_checks_89 ?_
        refine V_if_ne hC 148 (by decide) dX9_checks_91 (fun c => ?_) (fun c => absurd c (by decide))
        refine V_iload hC 0 rfl dX9_checks_148 ?_
        refine V_if_ne hC 156 (by decide) dX9_checks_150 (fun c => ?_) (fun c => absurd c (by decide))
        refine V_iconst hC 0 dX9_checks_156 (by decide) ?_
        refine V_istore hC [(6, .int 0), (5, .int 1), (0, .ref h0), (1, .int p1), (2, .int p2), (3, .int p3), (4, .int p4)] (by decide) rfl dX9_checks_157 ?_
        refine V_cast [(0, .ref h0), (1, .int p1), (2, .int p2), (3, .int p3), (4, .int p4), (5, .int 1), (6, .int 0)] [] [(h0, .inr (8, [.ref h1, .ref h2, .int n_saved, .ref h3, .long n_hash])), (h1, .inl (E.2.1, 404, .inl f5)), (h2, .inl (E.2.1, 1212, .inl a_past)), (h3, .inl (E.2.1, 9, .inl a_errors))] [2, 3, 4, 5, 6, 1, 0] [0, 1, 2, 3] rfl rfl rfl rfl ?_
        obtain ⟨n8, hw⟩ := hw
        exact bl_X9_checks_159 hC hr h0 h1 h2 h3 a_past n_saved a_errors n_hash K n8 p1 p2 p3 p4 1 0 f5 hw
    · have hw := hw.2 c4
      refine V_aload_n hC 0 rfl rfl dX9_checks_19 ?_
      refine V_get hC inX9 rfl 0 (by decide) wd_611 0 rfl rfl dX9_checks_20 ?_
      refine V_iconst hC 5 dX9_checks_23 (by decide) ?_
      refine V_dup2 hC rfl rfl dX9_checks_24 ?_
      refine V_iald hC 5 (by decide) 1 rfl (by unfold vp_in; decide) dX9_checks_25 ?_
      refine V_iconst hC 1 dX9_checks_26 (by decide) ?_
      refine V_iadd hC dX9_checks_27 ?_
      refine V_iast hC 5 (by decide) 1 rfl (by unfold vp_in; decide) dX9_checks_28 (fun f20 ef20 => ?_)
      have hw := hw f20 ef20
      refine V_ws [(h0, .inr (8, [.ref h1, .ref h2, .int n_saved, .ref h3, .long n_hash])), (h1, .inl (E.2.1, 404, .inl f20)), (h2, .inl (E.2.1, 1212, .inl a_past)), (h3, .inl (E.2.1, 9, .inl a_errors))] rfl ?_
      refine V_iload_n hC 3 rfl rfl dX9_checks_29 ?_
      refine V_iload hC 4 rfl dX9_checks_30 ?_
      refine V_aload_n hC 0 rfl rfl dX9_checks_32 ?_
      refine V_callV hC (wr := []) 0 [] [.int p4, .int p3] (ct_X9_difficultyNow l E h0 h1 h2 h3 f20 a_past n_saved a_errors n_hash _ hw) wd_732 wd_40 wd_729 wd_731 wd_24 (by decide +kernel) rfl ⟨Nat.le_of_ble_eq_true rfl, Nat.le_of_ble_eq_true rfl⟩ [0, 1, 2, 3] [] rfl rfl rfl rfl (by decide) rfl rfl rfl (Nat.le_of_ble_eq_true rfl) ⟨Nat.le_of_ble_eq_true rfl, Nat.le_of_ble_eq_true rfl⟩ dX9_checks_33 (fun v ws' hp => ?_)
      obtain ⟨r21, rfl, rfl, hw⟩ := hp
      refine V_cast [(0, .ref h0), (1, .int p1), (2, .int p2), (3, .int p3), (4, .int p4)] [.int r21, .int p4, .int p3] [(h0, .inr (8, [.ref h1, .ref h2, .int n_saved, .ref h3, .long n_hash])), (h1, .inl (E.2.1, 404, .inl f20)), (h2, .inl (E.2.1, 1212, .inl a_past)), (h3, .inl (E.2.1, 9, .inl a_errors))] [0, 1, 2, 3, 4] [0, 1, 2, 3] rfl rfl rfl rfl ?_
      refine V_callS hC (wr := [(h0, .inr (8, [.ref h1, .ref h2, .int n_saved, .ref h3, .long n_hash])), (h1, .inl (E.2.1, 404, .inl f20)), (h2, .inl (E.2.1, 1212, .inl a_past)), (h3, .inl (E.2.1, 9, .inl a_errors))]) 3 [.int p3, .int p4, .int r21] [] (ct_X9_isSolution l E p3 p4 r21 _ hw) wd_735 wd_40 wd_733 wd_734 (by decide +kernel) rfl ⟨Nat.le_of_ble_eq_true rfl, Nat.le_of_ble_eq_true rfl⟩ [] [0, 1, 2, 3] rfl rfl rfl rfl (by decide) rfl (Nat.le_of_ble_eq_true rfl) ⟨Nat.le_of_ble_eq_true rfl, Nat.le_of_ble_eq_true rfl⟩ dX9_checks_36 (fun v ws' hp => ?_)
      obtain ⟨r22, rfl, rfl, hw⟩ := hp
      refine V_cast [(0, .ref h0), (1, .int p1), (2, .int p2), (3, .int p3), (4, .int p4)] [.int r22] [(h0, .inr (8, [.ref h1, .ref h2, .int n_saved, .ref h3, .long n_hash])), (h1, .inl (E.2.1, 404, .inl f20)), (h2, .inl (E.2.1, 1212, .inl a_past)), (h3, .inl (E.2.1, 9, .inl a_errors))] [0, 1, 2, 3, 4] [0, 1, 2, 3] rfl rfl rfl rfl ?_
      refine V_if_ne hC 45 (by decide) dX9_checks_39 (fun c23 => ?_) (fun c23 => ?_)
      · have hw := hw.1 c23
        refine V_aload_n hC 0 rfl rfl dX9_checks_45 ?_
        refine V_get hC inX9 rfl 0 (by decide) wd_611 0 rfl rfl dX9_checks_46 ?_
        refine V_iconst hC 5 dX9_checks_49 (by decide) ?_
        refine V_dup2 hC rfl rfl dX9_checks_50 ?_
        refine V_iald hC 5 (by decide) 1 rfl (by unfold vp_in; decide) dX9_checks_51 ?_
        refine V_iconst hC 1 dX9_checks_52 (by decide) ?_
        refine V_iadd hC dX9_checks_53 ?_
        refine V_iast hC 5 (by decide) 1 rfl (by unfold vp_in; decide) dX9_checks_54 (fun f24 ef24 => ?_)
        have hw := hw f24 ef24
        refine V_ws [(h0, .inr (8, [.ref h1, .ref h2, .int n_saved, .ref h3, .long n_hash])), (h1, .inl (E.2.1, 404, .inl f24)), (h2, .inl (E.2.1, 1212, .inl a_past)), (h3, .inl (E.2.1, 9, .inl a_errors))] rfl ?_
        refine V_iload_n hC 3 rfl rfl dX9_checks_55 ?_
        refine V_sipush hC 4096 dX9_checks_56 (by decide) ?_
        refine V_irem hC (by decide) dX9_checks_59 ?_
        refine V_iload_n hC 1 rfl rfl dX9_checks_60 ?_
        refine V_iload_n hC 2 rfl rfl dX9_checks_61 ?_
        refine V_iload_n hC 3 rfl rfl dX9_checks_62 ?_
        refine V_callS hC (wr := [(h0, .inr (8, [.ref h1, .ref h2, .int n_saved, .ref h3, .long n_hash])), (h1, .inl (E.2.1, 404, .inl f24)), (h2, .inl (E.2.1, 1212, .inl a_past)), (h3, .inl (E.2.1, 9, .inl a_errors))]) 1 [.int p3] [.int p2, .int p1, .int (jrem p3 4096)] (ct_X9_stampOf l E p3 _ hw) wd_664 wd_40 wd_662 wd_663 (by decide +kernel) rfl ⟨Nat.le_of_ble_eq_true rfl, Nat.le_of_ble_eq_true rfl⟩ [] [0, 1, 2, 3] rfl rfl rfl rfl (by decide) rfl (Nat.le_of_ble_eq_true rfl) ⟨Nat.le_of_ble_eq_true rfl, Nat.le_of_ble_eq_true rfl⟩ dX9_checks_63 (fun v ws' hp => ?_)
        obtain ⟨r25, rfl, rfl, hw⟩ := hp
        refine V_cast [(0, .ref h0), (1, .int p1), (2, .int p2), (3, .int p3), (4, .int p4)] [.int r25, .int p2, .int p1, .int (jrem p3 4096)] [(h0, .inr (8, [.ref h1, .ref h2, .int n_saved, .ref h3, .long n_hash])), (h1, .inl (E.2.1, 404, .inl f24)), (h2, .inl (E.2.1, 1212, .inl a_past)), (h3, .inl (E.2.1, 9, .inl a_errors))] [0, 1, 2, 3, 4] [0, 1, 2, 3] rfl rfl rfl rfl ?_
        refine V_iload_n hC 3 rfl rfl dX9_checks_66 ?_
        refine V_callS hC (wr := [(h0, .inr (8, [.ref h1, .ref h2, .int n_saved, .ref h3, .long n_hash])), (h1, .inl (E.2.1, 404, .inl f24)), (h2, .inl (E.2.1, 1212, .inl a_past)), (h3, .inl (E.2.1, 9, .inl a_errors))]) 1 [.int p3] [.int r25, .int p2, .int p1, .int (jrem p3 4096)] (ct_X9_optionOf l E p3 _ hw) wd_739 wd_40 wd_737 wd_738 (by decide +kernel) rfl ⟨Nat.le_of_ble_eq_true rfl, Nat.le_of_ble_eq_true rfl⟩ [] [0, 1, 2, 3] rfl rfl rfl rfl (by decide) rfl (Nat.le_of_ble_eq_true rfl) ⟨Nat.le_of_ble_eq_true rfl, Nat.le_of_ble_eq_true rfl⟩ dX9_checks_67 (fun v ws' hp => ?_)
        obtain ⟨r26, rfl, rfl, hw⟩ := hp
        refine V_cast [(0, .ref h0), (1, .int p1), (2, .int p2), (3, .int p3), (4, .int p4)] [.int r26, .int r25, .int p2, .int p1, .int (jrem p3 4096)] [(h0, .inr (8, [.ref h1, .ref h2, .int n_saved, .ref h3, .long n_hash])), (h1, .inl (E.2.1, 404, .inl f24)), (h2, .inl (E.2.1, 1212, .inl a_past)), (h3, .inl (E.2.1, 9, .inl a_errors))] [0, 1, 2, 3, 4] [0, 1, 2, 3] rfl rfl rfl rfl ?_
        refine V_aload_n hC 0 rfl rfl dX9_checks_70 ?_
        refine V_get hC inX9 rfl 0 (by decide) wd_611 0 rfl rfl dX9_checks_71 ?_
        refine V_iconst hC 1 dX9_checks_74 (by decide) ?_
        refine V_iald hC 1 (by decide) 1 rfl (by unfold vp_in; decide) dX9_checks_75 ?_
        refine V_callS hC (wr := [(h0, .inr (8, [.ref h1, .ref h2, .int n_saved, .ref h3, .long n_hash])), (h1, .inl (E.2.1, 404, .inl f24)), (h2, .inl (E.2.1, 1212, .inl a_past)), (h3, .inl (E.2.1, 9, .inl a_errors))]) 5 [.int p1, .int p2, .int r25, .int r26, .int (f24 1)] [.int (jrem p3 4096)] (ct_X9_markOf l E p1 p2 r25 r26 (f24 1) _ hw) wd_694 wd_40 wd_692 wd_693 (by decide +kernel) rfl ⟨Nat.le_of_ble_eq_true rfl, Nat.le_of_ble_eq_true rfl⟩ [] [0, 1, 2, 3] rfl rfl rfl rfl (by decide) rfl (Nat.le_of_ble_eq_true rfl) ⟨Nat.le_of_ble_eq_true rfl, Nat.le_of_ble_eq_true rfl⟩ dX9_checks_76 (fun v ws' hp => ?_)
        obtain ⟨r27, rfl, rfl, hw⟩ := hp
        refine V_cast [(0, .ref h0), (1, .int p1), (2, .int p2), (3, .int p3), (4, .int p4)] [.int r27, .int (jrem p3 4096)] [(h0, .inr (8, [.ref h1, .ref h2, .int n_saved, .ref h3, .long n_hash])), (h1, .inl (E.2.1, 404, .inl f24)), (h2, .inl (E.2.1, 1212, .inl a_past)), (h3, .inl (E.2.1, 9, .inl a_errors))] [0, 1, 2, 3, 4] [0, 1, 2, 3] rfl rfl rfl rfl ?_
        refine V_icmp_ne hC 86 (by decide) dX9_checks_79 (fun c28 => ?_) (fun c28 => ?_)
        · have hw := hw.1 c28
          refine V_iconst hC 0 dX9_checks_86 (by decide) ?_
          refine V_istore hC [(5, .int 0), (0, .ref h0), (1, .int p1), (2, .int p2), (3, .int p3), (4, .int p4)] (by decide) rfl dX9_checks_87 ?_
          refine V_iload hC 0 rfl dX9_checks_89 ?_
          refine V_if_ne hC 148 (by decide) dX9_checks_91 (fun c => absurd (by decide) c) (fun c => ?_)
          refine V_aload_n hC 1 rfl rfl dX9_checks_94 ?_
          refine V_get hC inX9 rfl 0 (by decide) wd_611 0 rfl rfl dX9_checks_95 ?_
          refine V_iconst hC 2 dX9_checks_98 (by decide) ?_
          refine V_iald hC 2 (by decide) 1 rfl (by unfold vp_in; decide) dX9_checks_99 ?_
          refine V_iconst hC (-1) dX9_checks_100 (by decide) ?_
          refine V_icmp_eq hC 148 (by decide) dX9_checks_101 (fun c29 => ?_) (fun c29 => ?_)
          · have hw := hw.1 c29
            refine V_iload hC 0 rfl dX9_checks_148 ?_
            refine V_if_ne hC 156 (by decide) dX9_checks_150 (fun c => absurd (by decide) c) (fun c => ?_)
            refine V_bipush hC (-7) dX9_checks_153 (by decide) ?_
            exact V_iret hC hr ⟨(-7), f24, rfl, rfl, hw⟩ dX9_checks_155
          · have hw := hw.2 c29
            refine V_aload_n hC 1 rfl rfl dX9_checks_104 ?_
            refine V_get hC inX9 rfl 0 (by decide) wd_611 0 rfl rfl dX9_checks_105 ?_
            refine V_iconst hC 5 dX9_checks_108 (by decide) ?_
            refine V_dup2 hC rfl rfl dX9_checks_109 ?_
            refine V_iald hC 5 (by decide) 1 rfl (by unfold vp_in; decide) dX9_checks_110 ?_
            refine V_iconst hC 1 dX9_checks_111 (by decide) ?_
            refine V_iadd hC dX9_checks_112 ?_
            refine V_iast hC 5 (by decide) 1 rfl (by unfold vp_in; decide) dX9_checks_113 (fun f30 ef30 => ?_)
            have hw := hw f30 ef30
            refine V_ws [(h0, .inr (8, [.ref h1, .ref h2, .int n_saved, .ref h3, .long n_hash])), (h1, .inl (E.2.1, 404, .inl f30)), (h2, .inl (E.2.1, 1212, .inl a_past)), (h3, .inl (E.2.1, 9, .inl a_errors))] rfl ?_
            refine V_iload_n hC 4 rfl rfl dX9_checks_114 ?_
            refine V_sipush hC 4096 dX9_checks_115 (by decide) ?_
            refine V_irem hC (by decide) dX9_checks_118 ?_
            refine V_iload_n hC 2 rfl rfl dX9_checks_119 ?_
            refine V_iload_n hC 3 rfl rfl dX9_checks_120 ?_
            refine V_iload_n hC 4 rfl rfl dX9_checks_121 ?_
            refine V_callS hC (wr := [(h0, .inr (8, [.ref h1, .ref h2, .int n_saved, .ref h3, .long n_hash])), (h1, .inl (E.2.1, 404, .inl f30)), (h2, .inl (E.2.1, 1212, .inl a_past)), (h3, .inl (E.2.1, 9, .inl a_errors))]) 1 [.int p3] [.int p2, .int p1, .int (jrem p3 4096)] (ct_X9_stampOf l E p3 _ hw) wd_664 wd_40 wd_662 wd_663 (by decide +kernel) rfl ⟨Nat.le_of_ble_eq_true rfl, Nat.le_of_ble_eq_true rfl⟩ [] [0, 1, 2, 3] rfl rfl rfl rfl (by decide) rfl (Nat.le_of_ble_eq_true rfl) ⟨Nat.le_of_ble_eq_true rfl, Nat.le_of_ble_eq_true rfl⟩ dX9_checks_122 (fun v ws' hp => ?_)
            obtain ⟨r31, rfl, rfl, hw⟩ := hp
            refine V_cast [(5, .int 0), (0, .ref h0), (1, .int p1), (2, .int p2), (3, .int p3), (4, .int p4)] [.int r31, .int p2, .int p1, .int (jrem p3 4096)] [(h0, .inr (8, [.ref h1, .ref h2, .int n_saved, .ref h3, .long n_hash])), (h1, .inl (E.2.1, 404, .inl f30)), (h2, .inl (E.2.1, 1212, .inl a_past)), (h3, .inl (E.2.1, 9, .inl a_errors))] [0, 1, 2, 3, 4, 5] [0, 1, 2, 3] rfl rfl rfl rfl ?_
            refine V_iload_n hC 4 rfl rfl dX9_checks_125 ?_
            refine V_callS hC (wr := [(h0, .inr (8, [.ref h1, .ref h2, .int n_saved, .ref h3, .long n_hash])), (h1, .inl (E.2.1, 404, .inl f30)), (h2, .inl (E.2.1, 1212, .inl a_past)), (h3, .inl (E.2.1, 9, .inl a_errors))]) 1 [.int p3] [.int r31, .int p2, .int p1, .int (jrem p3 4096)] (ct_X9_optionOf l E p3 _ hw) wd_739 wd_40 wd_737 wd_738 (by decide +kernel) rfl ⟨Nat.le_of_ble_eq_true rfl, Nat.le_of_ble_eq_true rfl⟩ [] [0, 1, 2, 3] rfl rfl rfl rfl (by decide) rfl (Nat.le_of_ble_eq_true rfl) ⟨Nat.le_of_ble_eq_true rfl, Nat.le_of_ble_eq_true rfl⟩ dX9_checks_126 (fun v ws' hp => ?_)
            obtain ⟨r32, rfl, rfl, hw⟩ := hp
            refine V_cast [(5, .int 0), (0, .ref h0), (1, .int p1), (2, .int p2), (3, .int p3), (4, .int p4)] [.int r32, .int r31, .int p2, .int p1, .int (jrem p3 4096)] [(h0, .inr (8, [.ref h1, .ref h2, .int n_saved, .ref h3, .long n_hash])), (h1, .inl (E.2.1, 404, .inl f30)), (h2, .inl (E.2.1, 1212, .inl a_past)), (h3, .inl (E.2.1, 9, .inl a_errors))] [0, 1, 2, 3, 4, 5] [0, 1, 2, 3] rfl rfl rfl rfl ?_
            refine V_aload_n hC 1 rfl rfl dX9_checks_129 ?_
            refine V_get hC inX9 rfl 0 (by decide) wd_611 0 rfl rfl dX9_checks_130 ?_
            refine V_iconst hC 2 dX9_checks_133 (by decide) ?_
            refine V_iald hC 2 (by decide) 1 rfl (by unfold vp_in; decide) dX9_checks_134 ?_
            refine V_callS hC (wr := [(h0, .inr (8, [.ref h1, .ref h2, .int n_saved, .ref h3, .long n_hash])), (h1, .inl (E.2.1, 404, .inl f30)), (h2, .inl (E.2.1, 1212, .inl a_past)), (h3, .inl (E.2.1, 9, .inl a_errors))]) 5 [.int p1, .int p2, .int r31, .int r32, .int (f30 2)] [.int (jrem p3 4096)] (ct_X9_markOf l E p1 p2 r31 r32 (f30 2) _ hw) wd_694 wd_40 wd_692 wd_693 (by decide +kernel) rfl ⟨Nat.le_of_ble_eq_true rfl, Nat.le_of_ble_eq_true rfl⟩ [] [0, 1, 2, 3] rfl rfl rfl rfl (by decide) rfl (Nat.le_of_ble_eq_true rfl) ⟨Nat.le_of_ble_eq_true rfl, Nat.le_of_ble_eq_true rfl⟩ dX9_checks_135 (fun v ws' hp => ?_)
            obtain ⟨r33, rfl, rfl, hw⟩ := hp
            refine V_cast [(5, .int 0), (0, .ref h0), (1, .int p1), (2, .int p2), (3, .int p3), (4, .int p4)] [.int r33, .int (jrem p3 4096)] [(h0, .inr (8, [.ref h1, .ref h2, .int n_saved, .ref h3, .long n_hash])), (h1, .inl (E.2.1, 404, .inl f30)), (h2, .inl (E.2.1, 1212, .inl a_past)), (h3, .inl (E.2.1, 9, .inl a_errors))] [0, 1, 2, 3, 4, 5] [0, 1, 2, 3] rfl rfl rfl rfl ?_
            refine V_icmp_ne hC 145 (by decide) dX9_checks_138 (fun c34 => ?_) (fun c34 => ?_)
            · have hw := hw.1 c34
              refine V_iconst hC 0 dX9_checks_145 (by decide) ?_
              refine V_istore hC [(5, .int 0), (0, .ref h0), (1, .int p1), (2, .int p2), (3, .int p3), (4, .int p4)] (by decide) rfl dX9_checks_146 ?_
              refine V_iload hC 0 rfl dX9_checks_148 ?_
              refine V_if_ne hC 156 (by decide) dX9_checks_150 (fun c => absurd (by decide) c) (fun c => ?_)
              refine V_bipush hC (-7) dX9_checks_153 (by decide) ?_
              exact V_iret hC hr ⟨(-7), f30, rfl, rfl, hw⟩ dX9_checks_155
            · have hw := hw.2 c34
              refine V_iconst hC 1 dX9_checks_141 (by decide) ?_
              refine V_goto hC 146 (by decide) dX9_checks_142 ?_
              refine V_istore hC [(5, .int 1), (0, .ref h0), (1, .int p1), (2, .int p2), (3, .int p3), (4, .int p4)] (by decide) rfl dX9_checks_146 ?_
              refine V_iload hC 0 rfl dX9_checks_148 ?_
              refine V_if_ne hC 156 (by decide) dX9_checks_150 (fun c => ?_) (fun c => absurd c (by decide))
              refine V_iconst hC 0 dX9_checks_156 (by decide) ?_
              refine V_istore hC [(6, .int 0), (5, .int 1), (0, .ref h0), (1, .int p1), (2, .int p2), (3, .int p3), (4, .int p4)] (by decide) rfl dX9_checks_157 ?_
              refine V_cast [(0, .ref h0), (1, .int p1), (2, .int p2), (3, .int p3), (4, .int p4), (5, .int 1), (6, .int 0)] [] [(h0, .inr (8, [.ref h1, .ref h2, .int n_saved, .ref h3, .long n_hash])), (h1, .inl (E.2.1, 404, .inl f30)), (h2, .inl (E.2.1, 1212, .inl a_past)), (h3, .inl (E.2.1, 9, .inl a_errors))] [2, 3, 4, 5, 6, 1, 0] [0, 1, 2, 3] rfl rfl rfl rfl ?_
              obtain ⟨n8, hw⟩ := hw
              exact bl_X9_checks_159 hC hr h0 h1 h2 h3 a_past n_saved a_errors n_hash K n8 p1 p2 p3 p4 1 0 f30 hw
        · have hw := hw.2 c28
          refine V_iconst hC 1 dX9_checks_82 (by decide) ?_
          refine V_goto hC 87 (by decide) dX9_checks_83 ?_
          refine V_istore hC [(5, .int 1), (0, .ref h0), (1, .int p1), (2, .int p2), (3, .int p3), (4, .int p4)] (by decide) rfl dX9_checks_87 ?_
          refine V_iload hC 0 rfl dX9_checks_89 ?_
          refine V_if_ne hC 148 (by decide) dX9_checks_91 (fun c => ?_) (fun c => absurd c (by decide))
          refine V_iload hC 0 rfl dX9_checks_148 ?_
          refine V_if_ne hC 156 (by decide) dX9_checks_150 (fun c => ?_) (fun c => absurd c (by decide))
          refine V_iconst hC 0 dX9_checks_156 (by decide) ?_
          refine V_istore hC [(6, .int 0), (5, .int 1), (0, .ref h0), (1, .int p1), (2, .int p2), (3, .int p3), (4, .int p4)] (by decide) rfl dX9_checks_157 ?_
          refine V_cast [(0, .ref h0), (1, .int p1), (2, .int p2), (3, .int p3), (4, .int p4), (5, .int 1), (6, .int 0)] [] [(h0, .inr (8, [.ref h1, .ref h2, .int n_saved, .ref h3, .long n_hash])), (h1, .inl (E.2.1, 404, .inl f24)), (h2, .inl (E.2.1, 1212, .inl a_past)), (h3, .inl (E.2.1, 9, .inl a_errors))] [2, 3, 4, 5, 6, 1, 0] [0, 1, 2, 3] rfl rfl rfl rfl ?_
          obtain ⟨n8, hw⟩ := hw
          exact bl_X9_checks_159 hC hr h0 h1 h2 h3 a_past n_saved a_errors n_hash K n8 p1 p2 p3 p4 1 0 f24 hw
      · have hw := hw.2 c23
        refine V_bipush hC (-6) dX9_checks_42 (by decide) ?_
        exact V_iret hC hr ⟨(-6), f20, rfl, rfl, hw⟩ dX9_checks_44
  · have hw := hw.2 c2
    refine V_bipush hC (-5) dX9_checks_9 (by decide) ?_
    exact V_iret hC hr ⟨(-5), a_now, rfl, rfl, hw⟩ dX9_checks_11
abbrev po_X9_remembers (E : EN) (h0 : Nat) (h1 : Nat) (h2 : Nat) (h3 : Nat) (a_past : Nat → Int32) (n_saved : Int32) (a_errors : Nat → Int32) (n_hash : Int64) (K : (Nat → Int32) → Prop) : Option Value → va_W → Prop := fun v ws' => ∃ (a_now : Nat → Int32), v = none ∧ ws' = [(h0, .inr (8, [.ref h1, .ref h2, .int n_saved, .ref h3, .long n_hash])), (h1, .inl (E.2.1, 404, .inl a_now)), (h2, .inl (E.2.1, 1212, .inl a_past)), (h3, .inl (E.2.1, 9, .inl a_errors))] ∧ K a_now
def wp_X9_remembers (a_now : Nat → Int32) (a_past : Nat → Int32) (n_saved : Int32) (a_errors : Nat → Int32) (n_hash : Int64) (p1 : Int32) (p2 : Int32) (p3 : Int32) (K : (Nat → Int32) → Prop) : Prop := ((¬ (a_now 4) = 20 → (vp_in (168 + (3 * (a_now 4))) 404 ∧ (∀ f2 : Nat → Int32, f2 = upd a_now (Int32.toNatClampNeg (168 + (3 * (a_now 4)))) p3 → (vp_in ((168 + (3 * (a_now 4))) + 1) 404 ∧ (∀ f3 : Nat → Int32, f3 = upd f2 (Int32.toNatClampNeg ((168 + (3 * (a_now 4))) + 1)) p1 → (vp_in ((168 + (3 * (a_now 4))) + 2) 404 ∧ (∀ f4 : Nat → Int32, f4 = upd f3 (Int32.toNatClampNeg ((168 + (3 * (a_now 4))) + 2)) p2 → (∀ f5 : Nat → Int32, f5 = upd f4 4 ((f4 4) + 1) → K f5)))))))) ∧ ((a_now 4) = 20 → (wp_X9_drops a_now a_past n_saved a_errors n_hash 168 3 4 0 (fun (g6 : Nat → Int32) => (vp_in (168 + (3 * (g6 4))) 404 ∧ (∀ f7 : Nat → Int32, f7 = upd g6 (Int32.toNatClampNeg (168 + (3 * (g6 4)))) p3 → (vp_in ((168 + (3 * (g6 4))) + 1) 404 ∧ (∀ f8 : Nat → Int32, f8 = upd f7 (Int32.toNatClampNeg ((168 + (3 * (g6 4))) + 1)) p1 → (vp_in ((168 + (3 * (g6 4))) + 2) 404 ∧ (∀ f9 : Nat → Int32, f9 = upd f8 (Int32.toNatClampNeg ((168 + (3 * (g6 4))) + 2)) p2 → (∀ f10 : Nat → Int32, f10 = upd f9 4 ((f9 4) + 1) → K f10)))))))))))
set_option maxRecDepth 100000 in
set_option maxHeartbeats 4000000 in
theorem ct_X9_remembers (l : Launch) (E : EN) (h0 : Nat) (h1 : Nat) (h2 : Nat) (h3 : Nat) (a_now : Nat → Int32) (a_past : Nat → Int32) (n_saved : Int32) (a_errors : Nat → Int32) (n_hash : Int64) (p1 : Int32) (p2 : Int32) (p3 : Int32) (K : (Nat → Int32) → Prop) (hw : wp_X9_remembers a_now a_past n_saved a_errors n_hash p1 p2 p3 K) : Con l yX9_remembers cX9_remembers 5 (none) { frames := 1, cells := 0, slots := 0, locals := 25 } E [.ref h0, .int p1, .int p2, .int p3] [(h0, .inr (8, [.ref h1, .ref h2, .int n_saved, .ref h3, .long n_hash])), (h1, .inl (E.2.1, 404, .inl a_now)), (h2, .inl (E.2.1, 1212, .inl a_past)), (h3, .inl (E.2.1, 9, .inl a_errors))] (po_X9_remembers E h0 h1 h2 h3 a_past n_saved a_errors n_hash K) := by
  refine Con.mk (by decide +kernel) (Nat.le_of_ble_eq_true rfl) ?_
  intro p e s m below meth c A hC hr hin
  have hC : Cx p s m _ meth c E A cX9_remembers 5 "CookieServerModel" := hC
  rw [wp_X9_remembers] at hw
  refine V_cast [(0, .ref h0), (1, .int p1), (2, .int p2), (3, .int p3)] [] [(h0, .inr (8, [.ref h1, .ref h2, .int n_saved, .ref h3, .long n_hash])), (h1, .inl (E.2.1, 404, .inl a_now)), (h2, .inl (E.2.1, 1212, .inl a_past)), (h3, .inl (E.2.1, 9, .inl a_errors))] [0, 1, 2, 3] [0, 1, 2, 3] rfl rfl rfl rfl ?_
  refine V_aload_n hC 0 rfl rfl dX9_remembers_0 ?_
  refine V_get hC inX9 rfl 0 (by decide) wd_611 0 rfl rfl dX9_remembers_1 ?_
  refine V_iconst hC 4 dX9_remembers_4 (by decide) ?_
  refine V_iald hC 4 (by decide) 1 rfl (by unfold vp_in; decide) dX9_remembers_5 ?_
  refine V_bipush hC 20 dX9_remembers_6 (by decide) ?_
  refine V_icmp_ne hC 21 (by decide) dX9_remembers_8 (fun c1 => ?_) (fun c1 => ?_)
  · have hw := hw.1 c1
    refine V_sipush hC 168 dX9_remembers_21 (by decide) ?_
    refine V_iconst hC 3 dX9_remembers_24 (by decide) ?_
    refine V_aload_n hC 0 rfl rfl dX9_remembers_25 ?_
    refine V_get hC inX9 rfl 0 (by decide) wd_611 0 rfl rfl dX9_remembers_26 ?_
    refine V_iconst hC 4 dX9_remembers_29 (by decide) ?_
    refine V_iald hC 4 (by decide) 1 rfl (by unfold vp_in; decide) dX9_remembers_30 ?_
    refine V_imul hC dX9_remembers_31 ?_
    refine V_iadd hC dX9_remembers_32 ?_
    refine V_istore hC [(4, .int (168 + (3 * (a_now 4)))), (0, .ref h0), (1, .int p1), (2, .int p2), (3, .int p3)] (by decide) rfl dX9_remembers_33 ?_
    refine V_aload_n hC 1 rfl rfl dX9_remembers_35 ?_
    refine V_get hC inX9 rfl 0 (by decide) wd_611 0 rfl rfl dX9_remembers_36 ?_
    refine V_iload hC 0 rfl dX9_remembers_39 ?_
    refine V_iload_n hC 4 rfl rfl dX9_remembers_41 ?_
    refine V_iast hC _ rfl 1 rfl hw.1 dX9_remembers_42 (fun f2 ef2 => ?_)
    have hw := hw.2
    have hw := hw f2 ef2
    refine V_ws [(h0, .inr (8, [.ref h1, .ref h2, .int n_saved, .ref h3, .long n_hash])), (h1, .inl (E.2.1, 404, .inl f2)), (h2, .inl (E.2.1, 1212, .inl a_past)), (h3, .inl (E.2.1, 9, .inl a_errors))] rfl ?_
    refine V_aload_n hC 1 rfl rfl dX9_remembers_43 ?_
    refine V_get hC inX9 rfl 0 (by decide) wd_611 0 rfl rfl dX9_remembers_44 ?_
    refine V_iload hC 0 rfl dX9_remembers_47 ?_
    refine V_iconst hC 1 dX9_remembers_49 (by decide) ?_
    refine V_iadd hC dX9_remembers_50 ?_
    refine V_iload_n hC 2 rfl rfl dX9_remembers_51 ?_
    refine V_iast hC _ rfl 1 rfl hw.1 dX9_remembers_52 (fun f3 ef3 => ?_)
    have hw := hw.2
    have hw := hw f3 ef3
    refine V_ws [(h0, .inr (8, [.ref h1, .ref h2, .int n_saved, .ref h3, .long n_hash])), (h1, .inl (E.2.1, 404, .inl f3)), (h2, .inl (E.2.1, 1212, .inl a_past)), (h3, .inl (E.2.1, 9, .inl a_errors))] rfl ?_
    refine V_aload_n hC 1 rfl rfl dX9_remembers_53 ?_
    refine V_get hC inX9 rfl 0 (by decide) wd_611 0 rfl rfl dX9_remembers_54 ?_
    refine V_iload hC 0 rfl dX9_remembers_57 ?_
    refine V_iconst hC 2 dX9_remembers_59 (by decide) ?_
    refine V_iadd hC dX9_remembers_60 ?_
    refine V_iload_n hC 3 rfl rfl dX9_remembers_61 ?_
    refine V_iast hC _ rfl 1 rfl hw.1 dX9_remembers_62 (fun f4 ef4 => ?_)
    have hw := hw.2
    have hw := hw f4 ef4
    refine V_ws [(h0, .inr (8, [.ref h1, .ref h2, .int n_saved, .ref h3, .long n_hash])), (h1, .inl (E.2.1, 404, .inl f4)), (h2, .inl (E.2.1, 1212, .inl a_past)), (h3, .inl (E.2.1, 9, .inl a_errors))] rfl ?_
    refine V_aload_n hC 1 rfl rfl dX9_remembers_63 ?_
    refine V_get hC inX9 rfl 0 (by decide) wd_611 0 rfl rfl dX9_remembers_64 ?_
    refine V_iconst hC 4 dX9_remembers_67 (by decide) ?_
    refine V_dup2 hC rfl rfl dX9_remembers_68 ?_
    refine V_iald hC 4 (by decide) 1 rfl (by unfold vp_in; decide) dX9_remembers_69 ?_
    refine V_iconst hC 1 dX9_remembers_70 (by decide) ?_
    refine V_iadd hC dX9_remembers_71 ?_
    refine V_iast hC 4 (by decide) 1 rfl (by unfold vp_in; decide) dX9_remembers_72 (fun f5 ef5 => ?_)
    have hw := hw f5 ef5
    refine V_ws [(h0, .inr (8, [.ref h1, .ref h2, .int n_saved, .ref h3, .long n_hash])), (h1, .inl (E.2.1, 404, .inl f5)), (h2, .inl (E.2.1, 1212, .inl a_past)), (h3, .inl (E.2.1, 9, .inl a_errors))] rfl ?_
    exact V_vret hC hr ⟨f5, rfl, rfl, hw⟩ dX9_remembers_73
  · have hw := hw.2 c1
    refine V_aload_n hC 0 rfl rfl dX9_remembers_11 ?_
    refine V_sipush hC 168 dX9_remembers_12 (by decide) ?_
    refine V_iconst hC 3 dX9_remembers_15 (by decide) ?_
    refine V_iconst hC 4 dX9_remembers_16 (by decide) ?_
    refine V_iconst hC 0 dX9_remembers_17 (by decide) ?_
    refine V_callV hC (wr := []) 4 [.int 168, .int 3, .int 4, .int 0] [] (ct_X9_drops l E h0 h1 h2 h3 a_now a_past n_saved a_errors n_hash 168 3 4 0 _ hw) wd_653 wd_40 wd_650 wd_652 wd_15 (by decide +kernel) rfl ⟨Nat.le_of_ble_eq_true rfl, Nat.le_of_ble_eq_true rfl⟩ [0, 1, 2, 3] [] rfl rfl rfl rfl (by decide) rfl rfl rfl (Nat.le_of_ble_eq_true rfl) ⟨Nat.le_of_ble_eq_true rfl, Nat.le_of_ble_eq_true rfl⟩ dX9_remembers_18 (fun v ws' hp => ?_)
    obtain ⟨g6, rfl, rfl, hw⟩ := hp
    refine V_cast [(0, .ref h0), (1, .int p1), (2, .int p2), (3, .int p3)] [] [(h0, .inr (8, [.ref h1, .ref h2, .int n_saved, .ref h3, .long n_hash])), (h1, .inl (E.2.1, 404, .inl g6)), (h2, .inl (E.2.1, 1212, .inl a_past)), (h3, .inl (E.2.1, 9, .inl a_errors))] [0, 1, 2, 3] [0, 1, 2, 3] rfl rfl rfl rfl ?_
    refine V_sipush hC 168 dX9_remembers_21 (by decide) ?_
    refine V_iconst hC 3 dX9_remembers_24 (by decide) ?_
    refine V_aload_n hC 0 rfl rfl dX9_remembers_25 ?_
    refine V_get hC inX9 rfl 0 (by decide) wd_611 0 rfl rfl dX9_remembers_26 ?_
    refine V_iconst hC 4 dX9_remembers_29 (by decide) ?_
    refine V_iald hC 4 (by decide) 1 rfl (by unfold vp_in; decide) dX9_remembers_30 ?_
    refine V_imul hC dX9_remembers_31 ?_
    refine V_iadd hC dX9_remembers_32 ?_
    refine V_istore hC [(4, .int (168 + (3 * (g6 4)))), (0, .ref h0), (1, .int p1), (2, .int p2), (3, .int p3)] (by decide) rfl dX9_remembers_33 ?_
    refine V_aload_n hC 1 rfl rfl dX9_remembers_35 ?_
    refine V_get hC inX9 rfl 0 (by decide) wd_611 0 rfl rfl dX9_remembers_36 ?_
    refine V_iload hC 0 rfl dX9_remembers_39 ?_
    refine V_iload_n hC 4 rfl rfl dX9_remembers_41 ?_
    refine V_iast hC _ rfl 1 rfl hw.1 dX9_remembers_42 (fun f7 ef7 => ?_)
    have hw := hw.2
    have hw := hw f7 ef7
    refine V_ws [(h0, .inr (8, [.ref h1, .ref h2, .int n_saved, .ref h3, .long n_hash])), (h1, .inl (E.2.1, 404, .inl f7)), (h2, .inl (E.2.1, 1212, .inl a_past)), (h3, .inl (E.2.1, 9, .inl a_errors))] rfl ?_
    refine V_aload_n hC 1 rfl rfl dX9_remembers_43 ?_
    refine V_get hC inX9 rfl 0 (by decide) wd_611 0 rfl rfl dX9_remembers_44 ?_
    refine V_iload hC 0 rfl dX9_remembers_47 ?_
    refine V_iconst hC 1 dX9_remembers_49 (by decide) ?_
    refine V_iadd hC dX9_remembers_50 ?_
    refine V_iload_n hC 2 rfl rfl dX9_remembers_51 ?_
    refine V_iast hC _ rfl 1 rfl hw.1 dX9_remembers_52 (fun f8 ef8 => ?_)
    have hw := hw.2
    have hw := hw f8 ef8
    refine V_ws [(h0, .inr (8, [.ref h1, .ref h2, .int n_saved, .ref h3, .long n_hash])), (h1, .inl (E.2.1, 404, .inl f8)), (h2, .inl (E.2.1, 1212, .inl a_past)), (h3, .inl (E.2.1, 9, .inl a_errors))] rfl ?_
    refine V_aload_n hC 1 rfl rfl dX9_remembers_53 ?_
    refine V_get hC inX9 rfl 0 (by decide) wd_611 0 rfl rfl dX9_remembers_54 ?_
    refine V_iload hC 0 rfl dX9_remembers_57 ?_
    refine V_iconst hC 2 dX9_remembers_59 (by decide) ?_
    refine V_iadd hC dX9_remembers_60 ?_
    refine V_iload_n hC 3 rfl rfl dX9_remembers_61 ?_
    refine V_iast hC _ rfl 1 rfl hw.1 dX9_remembers_62 (fun f9 ef9 => ?_)
    have hw := hw.2
    have hw := hw f9 ef9
    refine V_ws [(h0, .inr (8, [.ref h1, .ref h2, .int n_saved, .ref h3, .long n_hash])), (h1, .inl (E.2.1, 404, .inl f9)), (h2, .inl (E.2.1, 1212, .inl a_past)), (h3, .inl (E.2.1, 9, .inl a_errors))] rfl ?_
    refine V_aload_n hC 1 rfl rfl dX9_remembers_63 ?_
    refine V_get hC inX9 rfl 0 (by decide) wd_611 0 rfl rfl dX9_remembers_64 ?_
    refine V_iconst hC 4 dX9_remembers_67 (by decide) ?_
    refine V_dup2 hC rfl rfl dX9_remembers_68 ?_
    refine V_iald hC 4 (by decide) 1 rfl (by unfold vp_in; decide) dX9_remembers_69 ?_
    refine V_iconst hC 1 dX9_remembers_70 (by decide) ?_
    refine V_iadd hC dX9_remembers_71 ?_
    refine V_iast hC 4 (by decide) 1 rfl (by unfold vp_in; decide) dX9_remembers_72 (fun f10 ef10 => ?_)
    have hw := hw f10 ef10
    refine V_ws [(h0, .inr (8, [.ref h1, .ref h2, .int n_saved, .ref h3, .long n_hash])), (h1, .inl (E.2.1, 404, .inl f10)), (h2, .inl (E.2.1, 1212, .inl a_past)), (h3, .inl (E.2.1, 9, .inl a_errors))] rfl ?_
    exact V_vret hC hr ⟨f10, rfl, rfl, hw⟩ dX9_remembers_73
abbrev po_X9_connections (E : EN) (h0 : Nat) (h1 : Nat) (h2 : Nat) (h3 : Nat) (a_now : Nat → Int32) (a_past : Nat → Int32) (n_saved : Int32) (a_errors : Nat → Int32) (n_hash : Int64) (K : Int32 → Prop) : Option Value → va_W → Prop := fun v ws' => ∃ (r0 : Int32), v = some (.int r0) ∧ ws' = [(h0, .inr (8, [.ref h1, .ref h2, .int n_saved, .ref h3, .long n_hash])), (h1, .inl (E.2.1, 404, .inl a_now)), (h2, .inl (E.2.1, 1212, .inl a_past)), (h3, .inl (E.2.1, 9, .inl a_errors))] ∧ K r0
def wpl_X9_connections_4 (a_now : Nat → Int32) (a_past : Nat → Int32) (n_saved : Int32) (a_errors : Nat → Int32) (n_hash : Int64) (K : Int32 → Prop) : Nat → Int32 → Int32 → Prop
  | 0, _, _ => False
  | n9 + 1, x1, x2 => ((16 ≤ x2 → K x1) ∧ (¬ (16 ≤ x2) → (wp_X9_connectionsOf a_now a_past n_saved a_errors n_hash x2 (fun (r2 : Int32) => wpl_X9_connections_4 a_now a_past n_saved a_errors n_hash K n9 (x1 + r2) (x2 + 1)))))
set_option maxRecDepth 100000 in
set_option maxHeartbeats 4000000 in
theorem bl_X9_connections_4 {p : Program} {l : Launch} {e : Env} {s : State} {m : MethodId} {args : Array Value} {below : List Frame} {meth : Method} {c : Code} {E : EN} {A : Nat → Prop} (hC : Cx p s m args meth c E A cX9_connections 3 "CookieServerModel") (hr : meth.sig.returnType = some .int) (h0 : Nat) (h1 : Nat) (h2 : Nat) (h3 : Nat) (a_now : Nat → Int32) (a_past : Nat → Int32) (n_saved : Int32) (a_errors : Nat → Int32) (n_hash : Int64) (K : Int32 → Prop) : ∀ (n8 : Nat) (x1 : Int32) (x2 : Int32), wpl_X9_connections_4 a_now a_past n_saved a_errors n_hash K n8 x1 x2 → V p l e { frames := 3, cells := 0, slots := 0, locals := 67 } s m args below meth c E A 3 0 0 (MQ below (QP E (po_X9_connections E h0 h1 h2 h3 a_now a_past n_saved a_errors n_hash K) A) args s 0 0 A) 4 [(0, .ref h0), (1, .int x1), (2, .int x2)] [] [(h0, .inr (8, [.ref h1, .ref h2, .int n_saved, .ref h3, .long n_hash])), (h1, .inl (E.2.1, 404, .inl a_now)), (h2, .inl (E.2.1, 1212, .inl a_past)), (h3, .inl (E.2.1, 9, .inl a_errors))] := by
  intro n8
  induction n8 with
  | zero => intro x1 x2 hw; rw [wpl_X9_connections_4] at hw; exact hw.elim
  | succ n9 ih =>
    intro x1 x2 hw
    rw [wpl_X9_connections_4] at hw
    refine V_iload_n hC 2 rfl rfl dX9_connections_4 ?_
    refine V_bipush hC 16 dX9_connections_5 (by decide) ?_
    refine V_icmp_ge hC 24 (by decide) dX9_connections_7 (fun c1 => ?_) (fun c1 => ?_)
    · have hw := hw.1 c1
      refine V_iload_n hC 1 rfl rfl dX9_connections_24 ?_
      exact V_iret hC hr ⟨x1, rfl, rfl, hw⟩ dX9_connections_25
    · have hw := hw.2 c1
      refine V_iload_n hC 1 rfl rfl dX9_connections_10 ?_
      refine V_aload_n hC 0 rfl rfl dX9_connections_11 ?_
      refine V_iload_n hC 2 rfl rfl dX9_connections_12 ?_
      refine V_callV hC (wr := []) 1 [.int x2] [.int x1] (ct_X9_connectionsOf l E h0 h1 h2 h3 a_now a_past n_saved a_errors n_hash x2 _ hw) wd_724 wd_40 wd_721 wd_723 wd_22 (by decide +kernel) rfl ⟨Nat.le_of_ble_eq_true rfl, Nat.le_of_ble_eq_true rfl⟩ [0, 1, 2, 3] [] rfl rfl rfl rfl (by decide) rfl rfl rfl (Nat.le_of_ble_eq_true rfl) ⟨Nat.le_of_ble_eq_true rfl, Nat.le_of_ble_eq_true rfl⟩ dX9_connections_13 (fun v ws' hp => ?_)
      obtain ⟨r2, rfl, rfl, hw⟩ := hp
      refine V_cast [(0, .ref h0), (1, .int x1), (2, .int x2)] [.int r2, .int x1] [(h0, .inr (8, [.ref h1, .ref h2, .int n_saved, .ref h3, .long n_hash])), (h1, .inl (E.2.1, 404, .inl a_now)), (h2, .inl (E.2.1, 1212, .inl a_past)), (h3, .inl (E.2.1, 9, .inl a_errors))] [0, 1, 2] [0, 1, 2, 3] rfl rfl rfl rfl ?_
      refine V_iadd hC dX9_connections_16 ?_
      refine V_istore_n hC [(1, .int (x1 + r2)), (0, .ref h0), (2, .int x2)] rfl (by decide) rfl dX9_connections_17 ?_
      refine V_iinc hC (x2 + 1) 2 [(2, .int (x2 + 1)), (1, .int (x1 + r2)), (0, .ref h0)] rfl (congrArg (fun z => x2 + z) (by decide : Int32.ofInt (1) = (1 : Int32))) (by decide) rfl dX9_connections_18 ?_
      refine V_goto hC 4 (by decide) dX9_connections_21 ?_
      refine V_cast [(0, .ref h0), (1, .int (x1 + r2)), (2, .int (x2 + 1))] [] [(h0, .inr (8, [.ref h1, .ref h2, .int n_saved, .ref h3, .long n_hash])), (h1, .inl (E.2.1, 404, .inl a_now)), (h2, .inl (E.2.1, 1212, .inl a_past)), (h3, .inl (E.2.1, 9, .inl a_errors))] [2, 1, 0] [0, 1, 2, 3] rfl rfl rfl rfl ?_
      exact ih (x1 + r2) (x2 + 1) hw
def wp_X9_connections (a_now : Nat → Int32) (a_past : Nat → Int32) (n_saved : Int32) (a_errors : Nat → Int32) (n_hash : Int64) (K : Int32 → Prop) : Prop := (∃ n8 : Nat, wpl_X9_connections_4 a_now a_past n_saved a_errors n_hash K n8 0 0)
set_option maxRecDepth 100000 in
set_option maxHeartbeats 4000000 in
theorem ct_X9_connections (l : Launch) (E : EN) (h0 : Nat) (h1 : Nat) (h2 : Nat) (h3 : Nat) (a_now : Nat → Int32) (a_past : Nat → Int32) (n_saved : Int32) (a_errors : Nat → Int32) (n_hash : Int64) (K : Int32 → Prop) (hw : wp_X9_connections a_now a_past n_saved a_errors n_hash K) : Con l yX9_connections cX9_connections 3 (some .int) { frames := 3, cells := 0, slots := 0, locals := 67 } E [.ref h0] [(h0, .inr (8, [.ref h1, .ref h2, .int n_saved, .ref h3, .long n_hash])), (h1, .inl (E.2.1, 404, .inl a_now)), (h2, .inl (E.2.1, 1212, .inl a_past)), (h3, .inl (E.2.1, 9, .inl a_errors))] (po_X9_connections E h0 h1 h2 h3 a_now a_past n_saved a_errors n_hash K) := by
  refine Con.mk (by decide +kernel) (Nat.le_of_ble_eq_true rfl) ?_
  intro p e s m below meth c A hC hr hin
  have hC : Cx p s m _ meth c E A cX9_connections 3 "CookieServerModel" := hC
  rw [wp_X9_connections] at hw
  refine V_cast [(0, .ref h0)] [] [(h0, .inr (8, [.ref h1, .ref h2, .int n_saved, .ref h3, .long n_hash])), (h1, .inl (E.2.1, 404, .inl a_now)), (h2, .inl (E.2.1, 1212, .inl a_past)), (h3, .inl (E.2.1, 9, .inl a_errors))] [0] [0, 1, 2, 3] rfl rfl rfl rfl ?_
  refine V_iconst hC 0 dX9_connections_0 (by decide) ?_
  refine V_istore_n hC [(1, .int 0), (0, .ref h0)] rfl (by decide) rfl dX9_connections_1 ?_
  refine V_iconst hC 0 dX9_connections_2 (by decide) ?_
  refine V_istore_n hC [(2, .int 0), (1, .int 0), (0, .ref h0)] rfl (by decide) rfl dX9_connections_3 ?_
  refine V_cast [(0, .ref h0), (1, .int 0), (2, .int 0)] [] [(h0, .inr (8, [.ref h1, .ref h2, .int n_saved, .ref h3, .long n_hash])), (h1, .inl (E.2.1, 404, .inl a_now)), (h2, .inl (E.2.1, 1212, .inl a_past)), (h3, .inl (E.2.1, 9, .inl a_errors))] [2, 1, 0] [0, 1, 2, 3] rfl rfl rfl rfl ?_
  obtain ⟨n8, hw⟩ := hw
  exact bl_X9_connections_4 hC hr h0 h1 h2 h3 a_now a_past n_saved a_errors n_hash K n8 0 0 hw
abbrev po_X9_accept (E : EN) (h0 : Nat) (h1 : Nat) (h2 : Nat) (h3 : Nat) (n_hash : Int64) (K : Int32 → (Nat → Int32) → (Nat → Int32) → Int32 → (Nat → Int32) → Prop) : Option Value → va_W → Prop := fun v ws' => ∃ (r0 : Int32) (a_now : Nat → Int32) (a_past : Nat → Int32) (n_saved : Int32) (a_errors : Nat → Int32), v = some (.int r0) ∧ ws' = [(h0, .inr (8, [.ref h1, .ref h2, .int n_saved, .ref h3, .long n_hash])), (h1, .inl (E.2.1, 404, .inl a_now)), (h2, .inl (E.2.1, 1212, .inl a_past)), (h3, .inl (E.2.1, 9, .inl a_errors))] ∧ K r0 a_now a_past n_saved a_errors
def wp_X9_accept (a_now : Nat → Int32) (a_past : Nat → Int32) (n_saved : Int32) (a_errors : Nat → Int32) (n_hash : Int64) (p1 : Int32) (p2 : Int32) (p3 : Int32) (p4 : Int32) (K : Int32 → (Nat → Int32) → (Nat → Int32) → Int32 → (Nat → Int32) → Prop) : Prop := (wp_X9_isPort p1 p2 (fun (r1 : Int32) => ((r1 = 0 → (wp_X9_fails a_now a_past n_saved a_errors n_hash (-2) (fun (r3 : Int32) (g4 : Nat → Int32) => K r3 a_now a_past n_saved g4))) ∧ (¬ (r1 = 0) → (wp_X9_isCookie p3 (fun (r5 : Int32) => ((r5 = 0 → (wp_X9_fails a_now a_past n_saved a_errors n_hash (-2) (fun (r7 : Int32) (g8 : Nat → Int32) => K r7 a_now a_past n_saved g8))) ∧ (¬ (r5 = 0) → (wp_X9_within p4 0 9999 (fun (r9 : Int32) => ((¬ r9 = 0 → (wp_X9_isConnected a_now a_past n_saved a_errors n_hash p1 p2 (fun (r11 : Int32) => ((r11 = 0 → (wp_X9_connections a_now a_past n_saved a_errors n_hash (fun (r13 : Int32) => ((¬ r13 = 10 → (wp_X9_entryOf a_now a_past n_saved a_errors n_hash p1 p2 (fun (r15 : Int32) => ((r15 = (-1) → (wp_X9_checks a_now a_past n_saved a_errors n_hash p1 p2 p3 p4 (fun (r17 : Int32) (g18 : Nat → Int32) => ((0 ≤ r17 → (∀ f20 : Nat → Int32, f20 = upd g18 5 (a_now 5) → (wp_X9_saves f20 a_past n_saved a_errors n_hash (fun (g21 : Nat → Int32) (s22 : Int32) => (∀ f23 : Nat → Int32, f23 = upd f20 5 (g18 5) → (wp_X9_remembers f23 g21 s22 a_errors n_hash p1 p2 p3 (fun (g24 : Nat → Int32) => (wp_X9_sizeAt g24 g21 s22 a_errors n_hash p1 p2 (fun (r25 : Int32) => (wp_X9_optionOf p3 (fun (r26 : Int32) => (vp_in r25 404 ∧ (∀ f27 : Nat → Int32, f27 = upd g24 (Int32.toNatClampNeg r25) (1 + r26) → (wp_X9_optionOf p3 (fun (r28 : Int32) => (wp_X9_sizeOf r28 (fun (r29 : Int32) => K r29 f27 g21 s22 a_errors))))))))))))))))) ∧ (¬ (0 ≤ r17) → (wp_X9_fails g18 a_past n_saved a_errors n_hash r17 (fun (r30 : Int32) (g31 : Nat → Int32) => K r30 g18 a_past n_saved g31))))))) ∧ (¬ (r15 = (-1)) → (vp_in ((24 + (4 * r15)) + 2) 404 ∧ ((¬ (a_now (Int32.toNatClampNeg ((24 + (4 * r15)) + 2))) = p3 → (wp_X9_checks a_now a_past n_saved a_errors n_hash p1 p2 p3 p4 (fun (r33 : Int32) (g34 : Nat → Int32) => ((0 ≤ r33 → (∀ f36 : Nat → Int32, f36 = upd g34 5 (a_now 5) → (wp_X9_saves f36 a_past n_saved a_errors n_hash (fun (g37 : Nat → Int32) (s38 : Int32) => (∀ f39 : Nat → Int32, f39 = upd f36 5 (g34 5) → (wp_X9_remembers f39 g37 s38 a_errors n_hash p1 p2 p3 (fun (g40 : Nat → Int32) => (wp_X9_sizeAt g40 g37 s38 a_errors n_hash p1 p2 (fun (r41 : Int32) => (wp_X9_optionOf p3 (fun (r42 : Int32) => (vp_in r41 404 ∧ (∀ f43 : Nat → Int32, f43 = upd g40 (Int32.toNatClampNeg r41) (1 + r42) → (wp_X9_optionOf p3 (fun (r44 : Int32) => (wp_X9_sizeOf r44 (fun (r45 : Int32) => K r45 f43 g37 s38 a_errors))))))))))))))))) ∧ (¬ (0 ≤ r33) → (wp_X9_fails g34 a_past n_saved a_errors n_hash r33 (fun (r46 : Int32) (g47 : Nat → Int32) => K r46 g34 a_past n_saved g47))))))) ∧ ((a_now (Int32.toNatClampNeg ((24 + (4 * r15)) + 2))) = p3 → (∀ f48 : Nat → Int32, f48 = upd a_now 5 (a_now 5) → (wp_X9_saves f48 a_past n_saved a_errors n_hash (fun (g49 : Nat → Int32) (s50 : Int32) => (∀ f51 : Nat → Int32, f51 = upd f48 5 (a_now 5) → (wp_X9_drops f51 g49 s50 a_errors n_hash 24 4 3 r15 (fun (g52 : Nat → Int32) => (wp_X9_sizeAt g52 g49 s50 a_errors n_hash p1 p2 (fun (r53 : Int32) => (wp_X9_optionOf p3 (fun (r54 : Int32) => (vp_in r53 404 ∧ (∀ f55 : Nat → Int32, f55 = upd g52 (Int32.toNatClampNeg r53) (1 + r54) → (wp_X9_optionOf p3 (fun (r56 : Int32) => (wp_X9_sizeOf r56 (fun (r57 : Int32) => K r57 f55 g49 s50 a_errors)))))))))))))))))))))))) ∧ (r13 = 10 → (wp_X9_fails a_now a_past n_saved a_errors n_hash (-4) (fun (r58 : Int32) (g59 : Nat → Int32) => K r58 a_now a_past n_saved g59))))))) ∧ (¬ (r11 = 0) → (wp_X9_fails a_now a_past n_saved a_errors n_hash (-3) (fun (r60 : Int32) (g61 : Nat → Int32) => K r60 a_now a_past n_saved g61))))))) ∧ (r9 = 0 → (wp_X9_fails a_now a_past n_saved a_errors n_hash (-2) (fun (r62 : Int32) (g63 : Nat → Int32) => K r62 a_now a_past n_saved g63))))))))))))))
set_option maxRecDepth 100000 in
set_option maxHeartbeats 4000000 in
theorem ct_X9_accept (l : Launch) (E : EN) (h0 : Nat) (h1 : Nat) (h2 : Nat) (h3 : Nat) (a_now : Nat → Int32) (a_past : Nat → Int32) (n_saved : Int32) (a_errors : Nat → Int32) (n_hash : Int64) (p1 : Int32) (p2 : Int32) (p3 : Int32) (p4 : Int32) (K : Int32 → (Nat → Int32) → (Nat → Int32) → Int32 → (Nat → Int32) → Prop) (hw : wp_X9_accept a_now a_past n_saved a_errors n_hash p1 p2 p3 p4 K) : Con l yX9_accept cX9_accept 10 (some .int) { frames := 4, cells := 0, slots := 0, locals := 89 } E [.ref h0, .int p1, .int p2, .int p3, .int p4] [(h0, .inr (8, [.ref h1, .ref h2, .int n_saved, .ref h3, .long n_hash])), (h1, .inl (E.2.1, 404, .inl a_now)), (h2, .inl (E.2.1, 1212, .inl a_past)), (h3, .inl (E.2.1, 9, .inl a_errors))] (po_X9_accept E h0 h1 h2 h3 n_hash K) := by
  refine Con.mk (by decide +kernel) (Nat.le_of_ble_eq_true rfl) ?_
  intro p e s m below meth c A hC hr hin
  have hC : Cx p s m _ meth c E A cX9_accept 10 "CookieServerModel" := hC
  rw [wp_X9_accept] at hw
  refine V_cast [(0, .ref h0), (1, .int p1), (2, .int p2), (3, .int p3), (4, .int p4)] [] [(h0, .inr (8, [.ref h1, .ref h2, .int n_saved, .ref h3, .long n_hash])), (h1, .inl (E.2.1, 404, .inl a_now)), (h2, .inl (E.2.1, 1212, .inl a_past)), (h3, .inl (E.2.1, 9, .inl a_errors))] [0, 1, 2, 3, 4] [0, 1, 2, 3] rfl rfl rfl rfl ?_
  refine V_iload_n hC 1 rfl rfl dX9_accept_0 ?_
  refine V_iload_n hC 2 rfl rfl dX9_accept_1 ?_
  refine V_callS hC (wr := [(h0, .inr (8, [.ref h1, .ref h2, .int n_saved, .ref h3, .long n_hash])), (h1, .inl (E.2.1, 404, .inl a_now)), (h2, .inl (E.2.1, 1212, .inl a_past)), (h3, .inl (E.2.1, 9, .inl a_errors))]) 2 [.int p1, .int p2] [] (ct_X9_isPort l E p1 p2 _ hw) wd_677 wd_40 wd_675 wd_676 (by decide +kernel) rfl ⟨Nat.le_of_ble_eq_true rfl, Nat.le_of_ble_eq_true rfl⟩ [] [0, 1, 2, 3] rfl rfl rfl rfl (by decide) rfl (Nat.le_of_ble_eq_true rfl) ⟨Nat.le_of_ble_eq_true rfl, Nat.le_of_ble_eq_true rfl⟩ dX9_accept_2 (fun v ws' hp => ?_)
  obtain ⟨r1, rfl, rfl, hw⟩ := hp
  refine V_cast [(0, .ref h0), (1, .int p1), (2, .int p2), (3, .int p3), (4, .int p4)] [.int r1] [(h0, .inr (8, [.ref h1, .ref h2, .int n_saved, .ref h3, .long n_hash])), (h1, .inl (E.2.1, 404, .inl a_now)), (h2, .inl (E.2.1, 1212, .inl a_past)), (h3, .inl (E.2.1, 9, .inl a_errors))] [0, 1, 2, 3, 4] [0, 1, 2, 3] rfl rfl rfl rfl ?_
  refine V_if_eq hC 27 (by decide) dX9_accept_5 (fun c2 => ?_) (fun c2 => ?_)
  · have hw := hw.1 c2
    refine V_aload_n hC 0 rfl rfl dX9_accept_27 ?_
    refine V_bipush hC (-2) dX9_accept_28 (by decide) ?_
    refine V_callV hC (wr := []) 1 [.int (-2)] [] (ct_X9_fails l E h0 h1 h2 h3 a_now a_past n_saved a_errors n_hash (-2) _ hw) wd_634 wd_40 wd_631 wd_633 wd_12 (by decide +kernel) rfl ⟨Nat.le_of_ble_eq_true rfl, Nat.le_of_ble_eq_true rfl⟩ [0, 1, 2, 3] [] rfl rfl rfl rfl (by decide) rfl rfl rfl (Nat.le_of_ble_eq_true rfl) ⟨Nat.le_of_ble_eq_true rfl, Nat.le_of_ble_eq_true rfl⟩ dX9_accept_30 (fun v ws' hp => ?_)
    obtain ⟨r3, g4, rfl, rfl, hw⟩ := hp
    refine V_cast [(0, .ref h0), (1, .int p1), (2, .int p2), (3, .int p3), (4, .int p4)] [.int r3] [(h0, .inr (8, [.ref h1, .ref h2, .int n_saved, .ref h3, .long n_hash])), (h1, .inl (E.2.1, 404, .inl a_now)), (h2, .inl (E.2.1, 1212, .inl a_past)), (h3, .inl (E.2.1, 9, .inl g4))] [0, 1, 2, 3, 4] [0, 1, 2, 3] rfl rfl rfl rfl ?_
    exact V_iret hC hr ⟨r3, a_now, a_past, n_saved, g4, rfl, rfl, hw⟩ dX9_accept_33
  · have hw := hw.2 c2
    refine V_iload_n hC 3 rfl rfl dX9_accept_8 ?_
    refine V_callS hC (wr := [(h0, .inr (8, [.ref h1, .ref h2, .int n_saved, .ref h3, .long n_hash])), (h1, .inl (E.2.1, 404, .inl a_now)), (h2, .inl (E.2.1, 1212, .inl a_past)), (h3, .inl (E.2.1, 9, .inl a_errors))]) 1 [.int p3] [] (ct_X9_isCookie l E p3 _ hw) wd_715 wd_40 wd_713 wd_714 (by decide +kernel) rfl ⟨Nat.le_of_ble_eq_true rfl, Nat.le_of_ble_eq_true rfl⟩ [] [0, 1, 2, 3] rfl rfl rfl rfl (by decide) rfl (Nat.le_of_ble_eq_true rfl) ⟨Nat.le_of_ble_eq_true rfl, Nat.le_of_ble_eq_true rfl⟩ dX9_accept_9 (fun v ws' hp => ?_)
    obtain ⟨r5, rfl, rfl, hw⟩ := hp
    refine V_cast [(0, .ref h0), (1, .int p1), (2, .int p2), (3, .int p3), (4, .int p4)] [.int r5] [(h0, .inr (8, [.ref h1, .ref h2, .int n_saved, .ref h3, .long n_hash])), (h1, .inl (E.2.1, 404, .inl a_now)), (h2, .inl (E.2.1, 1212, .inl a_past)), (h3, .inl (E.2.1, 9, .inl a_errors))] [0, 1, 2, 3, 4] [0, 1, 2, 3] rfl rfl rfl rfl ?_
    refine V_if_eq hC 27 (by decide) dX9_accept_12 (fun c6 => ?_) (fun c6 => ?_)
    · have hw := hw.1 c6
      refine V_aload_n hC 0 rfl rfl dX9_accept_27 ?_
      refine V_bipush hC (-2) dX9_accept_28 (by decide) ?_
      refine V_callV hC (wr := []) 1 [.int (-2)] [] (ct_X9_fails l E h0 h1 h2 h3 a_now a_past n_saved a_errors n_hash (-2) _ hw) wd_634 wd_40 wd_631 wd_633 wd_12 (by decide +kernel) rfl ⟨Nat.le_of_ble_eq_true rfl, Nat.le_of_ble_eq_true rfl⟩ [0, 1, 2, 3] [] rfl rfl rfl rfl (by decide) rfl rfl rfl (Nat.le_of_ble_eq_true rfl) ⟨Nat.le_of_ble_eq_true rfl, Nat.le_of_ble_eq_true rfl⟩ dX9_accept_30 (fun v ws' hp => ?_)
      obtain ⟨r7, g8, rfl, rfl, hw⟩ := hp
      refine V_cast [(0, .ref h0), (1, .int p1), (2, .int p2), (3, .int p3), (4, .int p4)] [.int r7] [(h0, .inr (8, [.ref h1, .ref h2, .int n_saved, .ref h3, .long n_hash])), (h1, .inl (E.2.1, 404, .inl a_now)), (h2, .inl (E.2.1, 1212, .inl a_past)), (h3, .inl (E.2.1, 9, .inl g8))] [0, 1, 2, 3, 4] [0, 1, 2, 3] rfl rfl rfl rfl ?_
      exact V_iret hC hr ⟨r7, a_now, a_past, n_saved, g8, rfl, rfl, hw⟩ dX9_accept_33
    · have hw := hw.2 c6
      refine V_iload hC 4 rfl dX9_accept_15 ?_
      refine V_iconst hC 0 dX9_accept_17 (by decide) ?_
      refine V_sipush hC 9999 dX9_accept_18 (by decide) ?_
      refine V_callS hC (wr := [(h0, .inr (8, [.ref h1, .ref h2, .int n_saved, .ref h3, .long n_hash])), (h1, .inl (E.2.1, 404, .inl a_now)), (h2, .inl (E.2.1, 1212, .inl a_past)), (h3, .inl (E.2.1, 9, .inl a_errors))]) 3 [.int p4, .int 0, .int 9999] [] (ct_X9_within l E p4 0 9999 _ hw) wd_641 wd_40 wd_639 wd_640 (by decide +kernel) rfl ⟨Nat.le_of_ble_eq_true rfl, Nat.le_of_ble_eq_true rfl⟩ [] [0, 1, 2, 3] rfl rfl rfl rfl (by decide) rfl (Nat.le_of_ble_eq_true rfl) ⟨Nat.le_of_ble_eq_true rfl, Nat.le_of_ble_eq_true rfl⟩ dX9_accept_21 (fun v ws' hp => ?_)
      obtain ⟨r9, rfl, rfl, hw⟩ := hp
      refine V_cast [(0, .ref h0), (1, .int p1), (2, .int p2), (3, .int p3), (4, .int p4)] [.int r9] [(h0, .inr (8, [.ref h1, .ref h2, .int n_saved, .ref h3, .long n_hash])), (h1, .inl (E.2.1, 404, .inl a_now)), (h2, .inl (E.2.1, 1212, .inl a_past)), (h3, .inl (E.2.1, 9, .inl a_errors))] [0, 1, 2, 3, 4] [0, 1, 2, 3] rfl rfl rfl rfl ?_
      refine V_if_ne hC 34 (by decide) dX9_accept_24 (fun c10 => ?_) (fun c10 => ?_)
      · have hw := hw.1 c10
        refine V_aload_n hC 0 rfl rfl dX9_accept_34 ?_
        refine V_iload_n hC 1 rfl rfl dX9_accept_35 ?_
        refine V_iload_n hC 2 rfl rfl dX9_accept_36 ?_
        refine V_callV hC (wr := []) 2 [.int p1, .int p2] [] (ct_X9_isConnected l E h0 h1 h2 h3 a_now a_past n_saved a_errors n_hash p1 p2 _ hw) wd_681 wd_40 wd_678 wd_680 wd_18 (by decide +kernel) rfl ⟨Nat.le_of_ble_eq_true rfl, Nat.le_of_ble_eq_true rfl⟩ [0, 1, 2, 3] [] rfl rfl rfl rfl (by decide) rfl rfl rfl (Nat.le_of_ble_eq_true rfl) ⟨Nat.le_of_ble_eq_true rfl, Nat.le_of_ble_eq_true rfl⟩ dX9_accept_37 (fun v ws' hp => ?_)
        obtain ⟨r11, rfl, rfl, hw⟩ := hp
        refine V_cast [(0, .ref h0), (1, .int p1), (2, .int p2), (3, .int p3), (4, .int p4)] [.int r11] [(h0, .inr (8, [.ref h1, .ref h2, .int n_saved, .ref h3, .long n_hash])), (h1, .inl (E.2.1, 404, .inl a_now)), (h2, .inl (E.2.1, 1212, .inl a_past)), (h3, .inl (E.2.1, 9, .inl a_errors))] [0, 1, 2, 3, 4] [0, 1, 2, 3] rfl rfl rfl rfl ?_
        refine V_if_eq hC 50 (by decide) dX9_accept_40 (fun c12 => ?_) (fun c12 => ?_)
        · have hw := hw.1 c12
          refine V_aload_n hC 0 rfl rfl dX9_accept_50 ?_
          refine V_callV hC (wr := []) 0 [] [] (ct_X9_connections l E h0 h1 h2 h3 a_now a_past n_saved a_errors n_hash _ hw) wd_720 wd_40 wd_717 wd_718 wd_719 (by decide +kernel) rfl ⟨Nat.le_of_ble_eq_true rfl, Nat.le_of_ble_eq_true rfl⟩ [0, 1, 2, 3] [] rfl rfl rfl rfl (by decide) rfl rfl rfl (Nat.le_of_ble_eq_true rfl) ⟨Nat.le_of_ble_eq_true rfl, Nat.le_of_ble_eq_true rfl⟩ dX9_accept_51 (fun v ws' hp => ?_)
          obtain ⟨r13, rfl, rfl, hw⟩ := hp
          refine V_cast [(0, .ref h0), (1, .int p1), (2, .int p2), (3, .int p3), (4, .int p4)] [.int r13] [(h0, .inr (8, [.ref h1, .ref h2, .int n_saved, .ref h3, .long n_hash])), (h1, .inl (E.2.1, 404, .inl a_now)), (h2, .inl (E.2.1, 1212, .inl a_past)), (h3, .inl (E.2.1, 9, .inl a_errors))] [0, 1, 2, 3, 4] [0, 1, 2, 3] rfl rfl rfl rfl ?_
          refine V_bipush hC 10 dX9_accept_54 (by decide) ?_
          refine V_icmp_ne hC 66 (by decide) dX9_accept_56 (fun c14 => ?_) (fun c14 => ?_)
          · have hw := hw.1 c14
            refine V_aload_n hC 0 rfl rfl dX9_accept_66 ?_
            refine V_iload_n hC 1 rfl rfl dX9_accept_67 ?_
            refine V_iload_n hC 2 rfl rfl dX9_accept_68 ?_
            refine V_callV hC (wr := []) 2 [.int p1, .int p2] [] (ct_X9_entryOf l E h0 h1 h2 h3 a_now a_past n_saved a_errors n_hash p1 p2 _ hw) wd_704 wd_40 wd_701 wd_703 wd_20 (by decide +kernel) rfl ⟨Nat.le_of_ble_eq_true rfl, Nat.le_of_ble_eq_true rfl⟩ [0, 1, 2, 3] [] rfl rfl rfl rfl (by decide) rfl rfl rfl (Nat.le_of_ble_eq_true rfl) ⟨Nat.le_of_ble_eq_true rfl, Nat.le_of_ble_eq_true rfl⟩ dX9_accept_69 (fun v ws' hp => ?_)
            obtain ⟨r15, rfl, rfl, hw⟩ := hp
            refine V_cast [(0, .ref h0), (1, .int p1), (2, .int p2), (3, .int p3), (4, .int p4)] [.int r15] [(h0, .inr (8, [.ref h1, .ref h2, .int n_saved, .ref h3, .long n_hash])), (h1, .inl (E.2.1, 404, .inl a_now)), (h2, .inl (E.2.1, 1212, .inl a_past)), (h3, .inl (E.2.1, 9, .inl a_errors))] [0, 1, 2, 3, 4] [0, 1, 2, 3] rfl rfl rfl rfl ?_
            refine V_istore hC [(5, .int r15), (0, .ref h0), (1, .int p1), (2, .int p2), (3, .int p3), (4, .int p4)] (by decide) rfl dX9_accept_72 ?_
            refine V_iload hC 0 rfl dX9_accept_74 ?_
            refine V_iconst hC (-1) dX9_accept_76 (by decide) ?_
            refine V_icmp_eq hC 102 (by decide) dX9_accept_77 (fun c16 => ?_) (fun c16 => ?_)
            · have hw := hw.1 c16
              refine V_iconst hC 0 dX9_accept_102 (by decide) ?_
              refine V_istore hC [(6, .int 0), (5, .int r15), (0, .ref h0), (1, .int p1), (2, .int p2), (3, .int p3), (4, .int p4)] (by decide) rfl dX9_accept_103 ?_
              refine V_aload_n hC 2 rfl rfl dX9_accept_105 ?_
              refine V_get hC inX9 rfl 0 (by decide) wd_611 0 rfl rfl dX9_accept_106 ?_
              refine V_iconst hC 5 dX9_accept_109 (by decide) ?_
              refine V_iald hC 5 (by decide) 1 rfl (by unfold vp_in; decide) dX9_accept_110 ?_
              refine V_istore hC [(7, .int (a_now 5)), (6, .int 0), (5, .int r15), (0, .ref h0), (1, .int p1), (2, .int p2), (3, .int p3), (4, .int p4)] (by decide) rfl dX9_accept_111 ?_
              refine V_iload hC 1 rfl dX9_accept_113 ?_
              refine V_if_eq hC 122 (by decide) dX9_accept_115 (fun c => ?_) (fun c => absurd (by decide) c)
              refine V_aload_n hC 3 rfl rfl dX9_accept_122 ?_
              refine V_iload_n hC 4 rfl rfl dX9_accept_123 ?_
              refine V_iload_n hC 5 rfl rfl dX9_accept_124 ?_
              refine V_iload_n hC 6 rfl rfl dX9_accept_125 ?_
              refine V_iload hC 7 rfl dX9_accept_126 ?_
              refine V_callV hC (wr := []) 4 [.int p1, .int p2, .int p3, .int p4] [] (ct_X9_checks l E h0 h1 h2 h3 a_now a_past n_saved a_errors n_hash p1 p2 p3 p4 _ hw) wd_728 wd_40 wd_725 wd_727 wd_23 (by decide +kernel) rfl ⟨Nat.le_of_ble_eq_true rfl, Nat.le_of_ble_eq_true rfl⟩ [0, 1, 2, 3] [] rfl rfl rfl rfl (by decide) rfl rfl rfl (Nat.le_of_ble_eq_true rfl) ⟨Nat.le_of_ble_eq_true rfl, Nat.le_of_ble_eq_true rfl⟩ dX9_accept_128 (fun v ws' hp => ?_)
              obtain ⟨r17, g18, rfl, rfl, hw⟩ := hp
              refine V_cast [(7, .int (a_now 5)), (6, .int 0), (5, .int r15), (0, .ref h0), (1, .int p1), (2, .int p2), (3, .int p3), (4, .int p4)] [.int r17] [(h0, .inr (8, [.ref h1, .ref h2, .int n_saved, .ref h3, .long n_hash])), (h1, .inl (E.2.1, 404, .inl g18)), (h2, .inl (E.2.1, 1212, .inl a_past)), (h3, .inl (E.2.1, 9, .inl a_errors))] [0, 1, 2, 3, 4, 5, 6, 7] [0, 1, 2, 3] rfl rfl rfl rfl ?_
              refine V_istore hC [(8, .int r17), (7, .int (a_now 5)), (6, .int 0), (5, .int r15), (0, .ref h0), (1, .int p1), (2, .int p2), (3, .int p3), (4, .int p4)] (by decide) rfl dX9_accept_131 ?_
              refine V_iload hC 0 rfl dX9_accept_133 ?_
              refine V_if_ge hC 145 (by decide) dX9_accept_135 (fun c19 => ?_) (fun c19 => ?_)
              · have hw := hw.1 c19
                refine V_aload_n hC 4 rfl rfl dX9_accept_145 ?_
                refine V_get hC inX9 rfl 0 (by decide) wd_611 0 rfl rfl dX9_accept_146 ?_
                refine V_iconst hC 5 dX9_accept_149 (by decide) ?_
                refine V_iald hC 5 (by decide) 1 rfl (by unfold vp_in; decide) dX9_accept_150 ?_
                refine V_istore hC [(9, .int (g18 5)), (8, .int r17), (7, .int (a_now 5)), (6, .int 0), (5, .int r15), (0, .ref h0), (1, .int p1), (2, .int p2), (3, .int p3), (4, .int p4)] (by decide) rfl dX9_accept_151 ?_
                refine V_aload_n hC 5 rfl rfl dX9_accept_153 ?_
                refine V_get hC inX9 rfl 0 (by decide) wd_611 0 rfl rfl dX9_accept_154 ?_
                refine V_iconst hC 5 dX9_accept_157 (by decide) ?_
                refine V_iload hC 2 rfl dX9_accept_158 ?_
                refine V_iast hC 5 (by decide) 1 rfl (by unfold vp_in; decide) dX9_accept_160 (fun f20 ef20 => ?_)
                have hw := hw f20 ef20
                refine V_ws [(h0, .inr (8, [.ref h1, .ref h2, .int n_saved, .ref h3, .long n_hash])), (h1, .inl (E.2.1, 404, .inl f20)), (h2, .inl (E.2.1, 1212, .inl a_past)), (h3, .inl (E.2.1, 9, .inl a_errors))] rfl ?_
                refine V_aload_n hC 5 rfl rfl dX9_accept_161 ?_
                refine V_callV hC (wr := []) 0 [] [] (ct_X9_saves l E h0 h1 h2 h3 f20 a_past n_saved a_errors n_hash _ hw) wd_645 wd_40 wd_642 wd_644 wd_13 (by decide +kernel) rfl ⟨Nat.le_of_ble_eq_true rfl, Nat.le_of_ble_eq_true rfl⟩ [0, 1, 2, 3] [] rfl rfl rfl rfl (by decide) rfl rfl rfl (Nat.le_of_ble_eq_true rfl) ⟨Nat.le_of_ble_eq_true rfl, Nat.le_of_ble_eq_true rfl⟩ dX9_accept_162 (fun v ws' hp => ?_)
                obtain ⟨g21, s22, rfl, rfl, hw⟩ := hp
                refine V_cast [(9, .int (g18 5)), (8, .int r17), (7, .int (a_now 5)), (6, .int 0), (5, .int r15), (0, .ref h0), (1, .int p1), (2, .int p2), (3, .int p3), (4, .int p4)] [] [(h0, .inr (8, [.ref h1, .ref h2, .int s22, .ref h3, .long n_hash])), (h1, .inl (E.2.1, 404, .inl f20)), (h2, .inl (E.2.1, 1212, .inl g21)), (h3, .inl (E.2.1, 9, .inl a_errors))] [0, 1, 2, 3, 4, 5, 6, 7, 8, 9] [0, 1, 2, 3] rfl rfl rfl rfl ?_
                refine V_aload_n hC 5 rfl rfl dX9_accept_165 ?_
                refine V_get hC inX9 rfl 0 (by decide) wd_611 0 rfl rfl dX9_accept_166 ?_
                refine V_iconst hC 5 dX9_accept_169 (by decide) ?_
                refine V_iload hC 0 rfl dX9_accept_170 ?_
                refine V_iast hC 5 (by decide) 1 rfl (by unfold vp_in; decide) dX9_accept_172 (fun f23 ef23 => ?_)
                have hw := hw f23 ef23
                refine V_ws [(h0, .inr (8, [.ref h1, .ref h2, .int s22, .ref h3, .long n_hash])), (h1, .inl (E.2.1, 404, .inl f23)), (h2, .inl (E.2.1, 1212, .inl g21)), (h3, .inl (E.2.1, 9, .inl a_errors))] rfl ?_
                refine V_iload hC 3 rfl dX9_accept_173 ?_
                refine V_if_eq hC 191 (by decide) dX9_accept_175 (fun c => ?_) (fun c => absurd (by decide) c)
                refine V_aload_n hC 5 rfl rfl dX9_accept_191 ?_
                refine V_iload_n hC 6 rfl rfl dX9_accept_192 ?_
                refine V_iload_n hC 7 rfl rfl dX9_accept_193 ?_
                refine V_iload_n hC 8 rfl rfl dX9_accept_194 ?_
                refine V_callV hC (wr := []) 3 [.int p1, .int p2, .int p3] [] (ct_X9_remembers l E h0 h1 h2 h3 f23 g21 s22 a_errors n_hash p1 p2 p3 _ hw) wd_743 wd_40 wd_740 wd_742 wd_25 (by decide +kernel) rfl ⟨Nat.le_of_ble_eq_true rfl, Nat.le_of_ble_eq_true rfl⟩ [0, 1, 2, 3] [] rfl rfl rfl rfl (by decide) rfl rfl rfl (Nat.le_of_ble_eq_true rfl) ⟨Nat.le_of_ble_eq_true rfl, Nat.le_of_ble_eq_true rfl⟩ dX9_accept_195 (fun v ws' hp => ?_)
                obtain ⟨g24, rfl, rfl, hw⟩ := hp
                refine V_cast [(9, .int (g18 5)), (8, .int r17), (7, .int (a_now 5)), (6, .int 0), (5, .int r15), (0, .ref h0), (1, .int p1), (2, .int p2), (3, .int p3), (4, .int p4)] [] [(h0, .inr (8, [.ref h1, .ref h2, .int s22, .ref h3, .long n_hash])), (h1, .inl (E.2.1, 404, .inl g24)), (h2, .inl (E.2.1, 1212, .inl g21)), (h3, .inl (E.2.1, 9, .inl a_errors))] [0, 1, 2, 3, 4, 5, 6, 7, 8, 9] [0, 1, 2, 3] rfl rfl rfl rfl ?_
                refine V_aload_n hC 5 rfl rfl dX9_accept_198 ?_
                refine V_get hC inX9 rfl 0 (by decide) wd_611 0 rfl rfl dX9_accept_199 ?_
                refine V_aload_n hC 5 rfl rfl dX9_accept_202 ?_
                refine V_iload_n hC 6 rfl rfl dX9_accept_203 ?_
                refine V_iload_n hC 7 rfl rfl dX9_accept_204 ?_
                refine V_callV hC (wr := []) 2 [.int p1, .int p2] [.ref h1] (ct_X9_sizeAt l E h0 h1 h2 h3 g24 g21 s22 a_errors n_hash p1 p2 _ hw) wd_685 wd_40 wd_682 wd_684 wd_19 (by decide +kernel) rfl ⟨Nat.le_of_ble_eq_true rfl, Nat.le_of_ble_eq_true rfl⟩ [0, 1, 2, 3] [] rfl rfl rfl rfl (by decide) rfl rfl rfl (Nat.le_of_ble_eq_true rfl) ⟨Nat.le_of_ble_eq_true rfl, Nat.le_of_ble_eq_true rfl⟩ dX9_accept_205 (fun v ws' hp => ?_)
                obtain ⟨r25, rfl, rfl, hw⟩ := hp
                refine V_cast [(9, .int (g18 5)), (8, .int r17), (7, .int (a_now 5)), (6, .int 0), (5, .int r15), (0, .ref h0), (1, .int p1), (2, .int p2), (3, .int p3), (4, .int p4)] [.int r25, .ref h1] [(h0, .inr (8, [.ref h1, .ref h2, .int s22, .ref h3, .long n_hash])), (h1, .inl (E.2.1, 404, .inl g24)), (h2, .inl (E.2.1, 1212, .inl g21)), (h3, .inl (E.2.1, 9, .inl a_errors))] [0, 1, 2, 3, 4, 5, 6, 7, 8, 9] [0, 1, 2, 3] rfl rfl rfl rfl ?_
                refine V_iconst hC 1 dX9_accept_208 (by decide) ?_
                refine V_iload_n hC 8 rfl rfl dX9_accept_209 ?_
                refine V_callS hC (wr := [(h0, .inr (8, [.ref h1, .ref h2, .int s22, .ref h3, .long n_hash])), (h1, .inl (E.2.1, 404, .inl g24)), (h2, .inl (E.2.1, 1212, .inl g21)), (h3, .inl (E.2.1, 9, .inl a_errors))]) 1 [.int p3] [.int 1, .int r25, .ref h1] (ct_X9_optionOf l E p3 _ hw) wd_739 wd_40 wd_737 wd_738 (by decide +kernel) rfl ⟨Nat.le_of_ble_eq_true rfl, Nat.le_of_ble_eq_true rfl⟩ [] [0, 1, 2, 3] rfl rfl rfl rfl (by decide) rfl (Nat.le_of_ble_eq_true rfl) ⟨Nat.le_of_ble_eq_true rfl, Nat.le_of_ble_eq_true rfl⟩ dX9_accept_210 (fun v ws' hp => ?_)
                obtain ⟨r26, rfl, rfl, hw⟩ := hp
                refine V_cast [(9, .int (g18 5)), (8, .int r17), (7, .int (a_now 5)), (6, .int 0), (5, .int r15), (0, .ref h0), (1, .int p1), (2, .int p2), (3, .int p3), (4, .int p4)] [.int r26, .int 1, .int r25, .ref h1] [(h0, .inr (8, [.ref h1, .ref h2, .int s22, .ref h3, .long n_hash])), (h1, .inl (E.2.1, 404, .inl g24)), (h2, .inl (E.2.1, 1212, .inl g21)), (h3, .inl (E.2.1, 9, .inl a_errors))] [0, 1, 2, 3, 4, 5, 6, 7, 8, 9] [0, 1, 2, 3] rfl rfl rfl rfl ?_
                refine V_iadd hC dX9_accept_213 ?_
                refine V_iast hC _ rfl 1 rfl hw.1 dX9_accept_214 (fun f27 ef27 => ?_)
                have hw := hw.2
                have hw := hw f27 ef27
                refine V_ws [(h0, .inr (8, [.ref h1, .ref h2, .int s22, .ref h3, .long n_hash])), (h1, .inl (E.2.1, 404, .inl f27)), (h2, .inl (E.2.1, 1212, .inl g21)), (h3, .inl (E.2.1, 9, .inl a_errors))] rfl ?_
                refine V_iload_n hC 8 rfl rfl dX9_accept_215 ?_
                refine V_callS hC (wr := [(h0, .inr (8, [.ref h1, .ref h2, .int s22, .ref h3, .long n_hash])), (h1, .inl (E.2.1, 404, .inl f27)), (h2, .inl (E.2.1, 1212, .inl g21)), (h3, .inl (E.2.1, 9, .inl a_errors))]) 1 [.int p3] [] (ct_X9_optionOf l E p3 _ hw) wd_739 wd_40 wd_737 wd_738 (by decide +kernel) rfl ⟨Nat.le_of_ble_eq_true rfl, Nat.le_of_ble_eq_true rfl⟩ [] [0, 1, 2, 3] rfl rfl rfl rfl (by decide) rfl (Nat.le_of_ble_eq_true rfl) ⟨Nat.le_of_ble_eq_true rfl, Nat.le_of_ble_eq_true rfl⟩ dX9_accept_216 (fun v ws' hp => ?_)
                obtain ⟨r28, rfl, rfl, hw⟩ := hp
                refine V_cast [(9, .int (g18 5)), (8, .int r17), (7, .int (a_now 5)), (6, .int 0), (5, .int r15), (0, .ref h0), (1, .int p1), (2, .int p2), (3, .int p3), (4, .int p4)] [.int r28] [(h0, .inr (8, [.ref h1, .ref h2, .int s22, .ref h3, .long n_hash])), (h1, .inl (E.2.1, 404, .inl f27)), (h2, .inl (E.2.1, 1212, .inl g21)), (h3, .inl (E.2.1, 9, .inl a_errors))] [0, 1, 2, 3, 4, 5, 6, 7, 8, 9] [0, 1, 2, 3] rfl rfl rfl rfl ?_
                refine V_callS hC (wr := [(h0, .inr (8, [.ref h1, .ref h2, .int s22, .ref h3, .long n_hash])), (h1, .inl (E.2.1, 404, .inl f27)), (h2, .inl (E.2.1, 1212, .inl g21)), (h3, .inl (E.2.1, 9, .inl a_errors))]) 1 [.int r28] [] (ct_X9_sizeOf l E r28 _ hw) wd_691 wd_40 wd_689 wd_690 (by decide +kernel) rfl ⟨Nat.le_of_ble_eq_true rfl, Nat.le_of_ble_eq_true rfl⟩ [] [0, 1, 2, 3] rfl rfl rfl rfl (by decide) rfl (Nat.le_of_ble_eq_true rfl) ⟨Nat.le_of_ble_eq_true rfl, Nat.le_of_ble_eq_true rfl⟩ dX9_accept_219 (fun v ws' hp => ?_)
                obtain ⟨r29, rfl, rfl, hw⟩ := hp
                refine V_cast [(9, .int (g18 5)), (8, .int r17), (7, .int (a_now 5)), (6, .int 0), (5, .int r15), (0, .ref h0), (1, .int p1), (2, .int p2), (3, .int p3), (4, .int p4)] [.int r29] [(h0, .inr (8, [.ref h1, .ref h2, .int s22, .ref h3, .long n_hash])), (h1, .inl (E.2.1, 404, .inl f27)), (h2, .inl (E.2.1, 1212, .inl g21)), (h3, .inl (E.2.1, 9, .inl a_errors))] [0, 1, 2, 3, 4, 5, 6, 7, 8, 9] [0, 1, 2, 3] rfl rfl rfl rfl ?_
                exact V_iret hC hr ⟨r29, f27, g21, s22, a_errors, rfl, rfl, hw⟩ dX9_accept_222
              · have hw := hw.2 c19
                refine V_aload_n hC 4 rfl rfl dX9_accept_138 ?_
                refine V_iload hC 0 rfl dX9_accept_139 ?_
                refine V_callV hC (wr := []) 1 [.int r17] [] (ct_X9_fails l E h0 h1 h2 h3 g18 a_past n_saved a_errors n_hash r17 _ hw) wd_634 wd_40 wd_631 wd_633 wd_12 (by decide +kernel) rfl ⟨Nat.le_of_ble_eq_true rfl, Nat.le_of_ble_eq_true rfl⟩ [0, 1, 2, 3] [] rfl rfl rfl rfl (by decide) rfl rfl rfl (Nat.le_of_ble_eq_true rfl) ⟨Nat.le_of_ble_eq_true rfl, Nat.le_of_ble_eq_true rfl⟩ dX9_accept_141 (fun v ws' hp => ?_)
                obtain ⟨r30, g31, rfl, rfl, hw⟩ := hp
                refine V_cast [(8, .int r17), (7, .int (a_now 5)), (6, .int 0), (5, .int r15), (0, .ref h0), (1, .int p1), (2, .int p2), (3, .int p3), (4, .int p4)] [.int r30] [(h0, .inr (8, [.ref h1, .ref h2, .int n_saved, .ref h3, .long n_hash])), (h1, .inl (E.2.1, 404, .inl g18)), (h2, .inl (E.2.1, 1212, .inl a_past)), (h3, .inl (E.2.1, 9, .inl g31))] [0, 1, 2, 3, 4, 5, 6, 7, 8] [0, 1, 2, 3] rfl rfl rfl rfl ?_
                exact V_iret hC hr ⟨r30, g18, a_past, n_saved, g31, rfl, rfl, hw⟩ dX9_accept_144
            · have hw := hw.2 c16
              refine V_aload_n hC 1 rfl rfl dX9_accept_80 ?_
              refine V_get hC inX9 rfl 0 (by decide) wd_611 0 rfl rfl dX9_accept_81 ?_
              refine V_bipush hC 24 dX9_accept_84 (by decide) ?_
              refine V_iconst hC 4 dX9_accept_86 (by decide) ?_
              refine V_iload hC 0 rfl dX9_accept_87 ?_
              refine V_imul hC dX9_accept_89 ?_
              refine V_iadd hC dX9_accept_90 ?_
              refine V_iconst hC 2 dX9_accept_91 (by decide) ?_
              refine V_iadd hC dX9_accept_92 ?_
              refine V_iald hC _ rfl 1 rfl hw.1 dX9_accept_93 ?_
              have hw := hw.2
              refine V_iload_n hC 4 rfl rfl dX9_accept_94 ?_
              refine V_icmp_ne hC 102 (by decide) dX9_accept_95 (fun c32 => ?_) (fun c32 => ?_)
              · have hw := hw.1 c32
                refine V_iconst hC 0 dX9_accept_102 (by decide) ?_
                refine V_istore hC [(6, .int 0), (5, .int r15), (0, .ref h0), (1, .int p1), (2, .int p2), (3, .int p3), (4, .int p4)] (by decide) rfl dX9_accept_103 ?_
                refine V_aload_n hC 2 rfl rfl dX9_accept_105 ?_
                refine V_get hC inX9 rfl 0 (by decide) wd_611 0 rfl rfl dX9_accept_106 ?_
                refine V_iconst hC 5 dX9_accept_109 (by decide) ?_
                refine V_iald hC 5 (by decide) 1 rfl (by unfold vp_in; decide) dX9_accept_110 ?_
                refine V_istore hC [(7, .int (a_now 5)), (6, .int 0), (5, .int r15), (0, .ref h0), (1, .int p1), (2, .int p2), (3, .int p3), (4, .int p4)] (by decide) rfl dX9_accept_111 ?_
                refine V_iload hC 1 rfl dX9_accept_113 ?_
                refine V_if_eq hC 122 (by decide) dX9_accept_115 (fun c => ?_) (fun c => absurd (by decide) c)
                refine V_aload_n hC 3 rfl rfl dX9_accept_122 ?_
                refine V_iload_n hC 4 rfl rfl dX9_accept_123 ?_
                refine V_iload_n hC 5 rfl rfl dX9_accept_124 ?_
                refine V_iload_n hC 6 rfl rfl dX9_accept_125 ?_
                refine V_iload hC 7 rfl dX9_accept_126 ?_
                refine V_callV hC (wr := []) 4 [.int p1, .int p2, .int p3, .int p4] [] (ct_X9_checks l E h0 h1 h2 h3 a_now a_past n_saved a_errors n_hash p1 p2 p3 p4 _ hw) wd_728 wd_40 wd_725 wd_727 wd_23 (by decide +kernel) rfl ⟨Nat.le_of_ble_eq_true rfl, Nat.le_of_ble_eq_true rfl⟩ [0, 1, 2, 3] [] rfl rfl rfl rfl (by decide) rfl rfl rfl (Nat.le_of_ble_eq_true rfl) ⟨Nat.le_of_ble_eq_true rfl, Nat.le_of_ble_eq_true rfl⟩ dX9_accept_128 (fun v ws' hp => ?_)
                obtain ⟨r33, g34, rfl, rfl, hw⟩ := hp
                refine V_cast [(7, .int (a_now 5)), (6, .int 0), (5, .int r15), (0, .ref h0), (1, .int p1), (2, .int p2), (3, .int p3), (4, .int p4)] [.int r33] [(h0, .inr (8, [.ref h1, .ref h2, .int n_saved, .ref h3, .long n_hash])), (h1, .inl (E.2.1, 404, .inl g34)), (h2, .inl (E.2.1, 1212, .inl a_past)), (h3, .inl (E.2.1, 9, .inl a_errors))] [0, 1, 2, 3, 4, 5, 6, 7] [0, 1, 2, 3] rfl rfl rfl rfl ?_
                refine V_istore hC [(8, .int r33), (7, .int (a_now 5)), (6, .int 0), (5, .int r15), (0, .ref h0), (1, .int p1), (2, .int p2), (3, .int p3), (4, .int p4)] (by decide) rfl dX9_accept_131 ?_
                refine V_iload hC 0 rfl dX9_accept_133 ?_
                refine V_if_ge hC 145 (by decide) dX9_accept_135 (fun c35 => ?_) (fun c35 => ?_)
                · have hw := hw.1 c35
                  refine V_aload_n hC 4 rfl rfl dX9_accept_145 ?_
                  refine V_get hC inX9 rfl 0 (by decide) wd_611 0 rfl rfl dX9_accept_146 ?_
                  refine V_iconst hC 5 dX9_accept_149 (by decide) ?_
                  refine V_iald hC 5 (by decide) 1 rfl (by unfold vp_in; decide) dX9_accept_150 ?_
                  refine V_istore hC [(9, .int (g34 5)), (8, .int r33), (7, .int (a_now 5)), (6, .int 0), (5, .int r15), (0, .ref h0), (1, .int p1), (2, .int p2), (3, .int p3), (4, .int p4)] (by decide) rfl dX9_accept_151 ?_
                  refine V_aload_n hC 5 rfl rfl dX9_accept_153 ?_
                  refine V_get hC inX9 rfl 0 (by decide) wd_611 0 rfl rfl dX9_accept_154 ?_
                  refine V_iconst hC 5 dX9_accept_157 (by decide) ?_
                  refine V_iload hC 2 rfl dX9_accept_158 ?_
                  refine V_iast hC 5 (by decide) 1 rfl (by unfold vp_in; decide) dX9_accept_160 (fun f36 ef36 => ?_)
                  have hw := hw f36 ef36
                  refine V_ws [(h0, .inr (8, [.ref h1, .ref h2, .int n_saved, .ref h3, .long n_hash])), (h1, .inl (E.2.1, 404, .inl f36)), (h2, .inl (E.2.1, 1212, .inl a_past)), (h3, .inl (E.2.1, 9, .inl a_errors))] rfl ?_
                  refine V_aload_n hC 5 rfl rfl dX9_accept_161 ?_
                  refine V_callV hC (wr := []) 0 [] [] (ct_X9_saves l E h0 h1 h2 h3 f36 a_past n_saved a_errors n_hash _ hw) wd_645 wd_40 wd_642 wd_644 wd_13 (by decide +kernel) rfl ⟨Nat.le_of_ble_eq_true rfl, Nat.le_of_ble_eq_true rfl⟩ [0, 1, 2, 3] [] rfl rfl rfl rfl (by decide) rfl rfl rfl (Nat.le_of_ble_eq_true rfl) ⟨Nat.le_of_ble_eq_true rfl, Nat.le_of_ble_eq_true rfl⟩ dX9_accept_162 (fun v ws' hp => ?_)
                  obtain ⟨g37, s38, rfl, rfl, hw⟩ := hp
                  refine V_cast [(9, .int (g34 5)), (8, .int r33), (7, .int (a_now 5)), (6, .int 0), (5, .int r15), (0, .ref h0), (1, .int p1), (2, .int p2), (3, .int p3), (4, .int p4)] [] [(h0, .inr (8, [.ref h1, .ref h2, .int s38, .ref h3, .long n_hash])), (h1, .inl (E.2.1, 404, .inl f36)), (h2, .inl (E.2.1, 1212, .inl g37)), (h3, .inl (E.2.1, 9, .inl a_errors))] [0, 1, 2, 3, 4, 5, 6, 7, 8, 9] [0, 1, 2, 3] rfl rfl rfl rfl ?_
                  refine V_aload_n hC 5 rfl rfl dX9_accept_165 ?_
                  refine V_get hC inX9 rfl 0 (by decide) wd_611 0 rfl rfl dX9_accept_166 ?_
                  refine V_iconst hC 5 dX9_accept_169 (by decide) ?_
                  refine V_iload hC 0 rfl dX9_accept_170 ?_
                  refine V_iast hC 5 (by decide) 1 rfl (by unfold vp_in; decide) dX9_accept_172 (fun f39 ef39 => ?_)
                  have hw := hw f39 ef39
                  refine V_ws [(h0, .inr (8, [.ref h1, .ref h2, .int s38, .ref h3, .long n_hash])), (h1, .inl (E.2.1, 404, .inl f39)), (h2, .inl (E.2.1, 1212, .inl g37)), (h3, .inl (E.2.1, 9, .inl a_errors))] rfl ?_
                  refine V_iload hC 3 rfl dX9_accept_173 ?_
                  refine V_if_eq hC 191 (by decide) dX9_accept_175 (fun c => ?_) (fun c => absurd (by decide) c)
                  refine V_aload_n hC 5 rfl rfl dX9_accept_191 ?_
                  refine V_iload_n hC 6 rfl rfl dX9_accept_192 ?_
                  refine V_iload_n hC 7 rfl rfl dX9_accept_193 ?_
                  refine V_iload_n hC 8 rfl rfl dX9_accept_194 ?_
                  refine V_callV hC (wr := []) 3 [.int p1, .int p2, .int p3] [] (ct_X9_remembers l E h0 h1 h2 h3 f39 g37 s38 a_errors n_hash p1 p2 p3 _ hw) wd_743 wd_40 wd_740 wd_742 wd_25 (by decide +kernel) rfl ⟨Nat.le_of_ble_eq_true rfl, Nat.le_of_ble_eq_true rfl⟩ [0, 1, 2, 3] [] rfl rfl rfl rfl (by decide) rfl rfl rfl (Nat.le_of_ble_eq_true rfl) ⟨Nat.le_of_ble_eq_true rfl, Nat.le_of_ble_eq_true rfl⟩ dX9_accept_195 (fun v ws' hp => ?_)
                  obtain ⟨g40, rfl, rfl, hw⟩ := hp
                  refine V_cast [(9, .int (g34 5)), (8, .int r33), (7, .int (a_now 5)), (6, .int 0), (5, .int r15), (0, .ref h0), (1, .int p1), (2, .int p2), (3, .int p3), (4, .int p4)] [] [(h0, .inr (8, [.ref h1, .ref h2, .int s38, .ref h3, .long n_hash])), (h1, .inl (E.2.1, 404, .inl g40)), (h2, .inl (E.2.1, 1212, .inl g37)), (h3, .inl (E.2.1, 9, .inl a_errors))] [0, 1, 2, 3, 4, 5, 6, 7, 8, 9] [0, 1, 2, 3] rfl rfl rfl rfl ?_
                  refine V_aload_n hC 5 rfl rfl dX9_accept_198 ?_
                  refine V_get hC inX9 rfl 0 (by decide) wd_611 0 rfl rfl dX9_accept_199 ?_
                  refine V_aload_n hC 5 rfl rfl dX9_accept_202 ?_
                  refine V_iload_n hC 6 rfl rfl dX9_accept_203 ?_
                  refine V_iload_n hC 7 rfl rfl dX9_accept_204 ?_
                  refine V_callV hC (wr := []) 2 [.int p1, .int p2] [.ref h1] (ct_X9_sizeAt l E h0 h1 h2 h3 g40 g37 s38 a_errors n_hash p1 p2 _ hw) wd_685 wd_40 wd_682 wd_684 wd_19 (by decide +kernel) rfl ⟨Nat.le_of_ble_eq_true rfl, Nat.le_of_ble_eq_true rfl⟩ [0, 1, 2, 3] [] rfl rfl rfl rfl (by decide) rfl rfl rfl (Nat.le_of_ble_eq_true rfl) ⟨Nat.le_of_ble_eq_true rfl, Nat.le_of_ble_eq_true rfl⟩ dX9_accept_205 (fun v ws' hp => ?_)
                  obtain ⟨r41, rfl, rfl, hw⟩ := hp
                  refine V_cast [(9, .int (g34 5)), (8, .int r33), (7, .int (a_now 5)), (6, .int 0), (5, .int r15), (0, .ref h0), (1, .int p1), (2, .int p2), (3, .int p3), (4, .int p4)] [.int r41, .ref h1] [(h0, .inr (8, [.ref h1, .ref h2, .int s38, .ref h3, .long n_hash])), (h1, .inl (E.2.1, 404, .inl g40)), (h2, .inl (E.2.1, 1212, .inl g37)), (h3, .inl (E.2.1, 9, .inl a_errors))] [0, 1, 2, 3, 4, 5, 6, 7, 8, 9] [0, 1, 2, 3] rfl rfl rfl rfl ?_
                  refine V_iconst hC 1 dX9_accept_208 (by decide) ?_
                  refine V_iload_n hC 8 rfl rfl dX9_accept_209 ?_
                  refine V_callS hC (wr := [(h0, .inr (8, [.ref h1, .ref h2, .int s38, .ref h3, .long n_hash])), (h1, .inl (E.2.1, 404, .inl g40)), (h2, .inl (E.2.1, 1212, .inl g37)), (h3, .inl (E.2.1, 9, .inl a_errors))]) 1 [.int p3] [.int 1, .int r41, .ref h1] (ct_X9_optionOf l E p3 _ hw) wd_739 wd_40 wd_737 wd_738 (by decide +kernel) rfl ⟨Nat.le_of_ble_eq_true rfl, Nat.le_of_ble_eq_true rfl⟩ [] [0, 1, 2, 3] rfl rfl rfl rfl (by decide) rfl (Nat.le_of_ble_eq_true rfl) ⟨Nat.le_of_ble_eq_true rfl, Nat.le_of_ble_eq_true rfl⟩ dX9_accept_210 (fun v ws' hp => ?_)
                  obtain ⟨r42, rfl, rfl, hw⟩ := hp
                  refine V_cast [(9, .int (g34 5)), (8, .int r33), (7, .int (a_now 5)), (6, .int 0), (5, .int r15), (0, .ref h0), (1, .int p1), (2, .int p2), (3, .int p3), (4, .int p4)] [.int r42, .int 1, .int r41, .ref h1] [(h0, .inr (8, [.ref h1, .ref h2, .int s38, .ref h3, .long n_hash])), (h1, .inl (E.2.1, 404, .inl g40)), (h2, .inl (E.2.1, 1212, .inl g37)), (h3, .inl (E.2.1, 9, .inl a_errors))] [0, 1, 2, 3, 4, 5, 6, 7, 8, 9] [0, 1, 2, 3] rfl rfl rfl rfl ?_
                  refine V_iadd hC dX9_accept_213 ?_
                  refine V_iast hC _ rfl 1 rfl hw.1 dX9_accept_214 (fun f43 ef43 => ?_)
                  have hw := hw.2
                  have hw := hw f43 ef43
                  refine V_ws [(h0, .inr (8, [.ref h1, .ref h2, .int s38, .ref h3, .long n_hash])), (h1, .inl (E.2.1, 404, .inl f43)), (h2, .inl (E.2.1, 1212, .inl g37)), (h3, .inl (E.2.1, 9, .inl a_errors))] rfl ?_
                  refine V_iload_n hC 8 rfl rfl dX9_accept_215 ?_
                  refine V_callS hC (wr := [(h0, .inr (8, [.ref h1, .ref h2, .int s38, .ref h3, .long n_hash])), (h1, .inl (E.2.1, 404, .inl f43)), (h2, .inl (E.2.1, 1212, .inl g37)), (h3, .inl (E.2.1, 9, .inl a_errors))]) 1 [.int p3] [] (ct_X9_optionOf l E p3 _ hw) wd_739 wd_40 wd_737 wd_738 (by decide +kernel) rfl ⟨Nat.le_of_ble_eq_true rfl, Nat.le_of_ble_eq_true rfl⟩ [] [0, 1, 2, 3] rfl rfl rfl rfl (by decide) rfl (Nat.le_of_ble_eq_true rfl) ⟨Nat.le_of_ble_eq_true rfl, Nat.le_of_ble_eq_true rfl⟩ dX9_accept_216 (fun v ws' hp => ?_)
                  obtain ⟨r44, rfl, rfl, hw⟩ := hp
                  refine V_cast [(9, .int (g34 5)), (8, .int r33), (7, .int (a_now 5)), (6, .int 0), (5, .int r15), (0, .ref h0), (1, .int p1), (2, .int p2), (3, .int p3), (4, .int p4)] [.int r44] [(h0, .inr (8, [.ref h1, .ref h2, .int s38, .ref h3, .long n_hash])), (h1, .inl (E.2.1, 404, .inl f43)), (h2, .inl (E.2.1, 1212, .inl g37)), (h3, .inl (E.2.1, 9, .inl a_errors))] [0, 1, 2, 3, 4, 5, 6, 7, 8, 9] [0, 1, 2, 3] rfl rfl rfl rfl ?_
                  refine V_callS hC (wr := [(h0, .inr (8, [.ref h1, .ref h2, .int s38, .ref h3, .long n_hash])), (h1, .inl (E.2.1, 404, .inl f43)), (h2, .inl (E.2.1, 1212, .inl g37)), (h3, .inl (E.2.1, 9, .inl a_errors))]) 1 [.int r44] [] (ct_X9_sizeOf l E r44 _ hw) wd_691 wd_40 wd_689 wd_690 (by decide +kernel) rfl ⟨Nat.le_of_ble_eq_true rfl, Nat.le_of_ble_eq_true rfl⟩ [] [0, 1, 2, 3] rfl rfl rfl rfl (by decide) rfl (Nat.le_of_ble_eq_true rfl) ⟨Nat.le_of_ble_eq_true rfl, Nat.le_of_ble_eq_true rfl⟩ dX9_accept_219 (fun v ws' hp => ?_)
                  obtain ⟨r45, rfl, rfl, hw⟩ := hp
                  refine V_cast [(9, .int (g34 5)), (8, .int r33), (7, .int (a_now 5)), (6, .int 0), (5, .int r15), (0, .ref h0), (1, .int p1), (2, .int p2), (3, .int p3), (4, .int p4)] [.int r45] [(h0, .inr (8, [.ref h1, .ref h2, .int s38, .ref h3, .long n_hash])), (h1, .inl (E.2.1, 404, .inl f43)), (h2, .inl (E.2.1, 1212, .inl g37)), (h3, .inl (E.2.1, 9, .inl a_errors))] [0, 1, 2, 3, 4, 5, 6, 7, 8, 9] [0, 1, 2, 3] rfl rfl rfl rfl ?_
                  exact V_iret hC hr ⟨r45, f43, g37, s38, a_errors, rfl, rfl, hw⟩ dX9_accept_222
                · have hw := hw.2 c35
                  refine V_aload_n hC 4 rfl rfl dX9_accept_138 ?_
                  refine V_iload hC 0 rfl dX9_accept_139 ?_
                  refine V_callV hC (wr := []) 1 [.int r33] [] (ct_X9_fails l E h0 h1 h2 h3 g34 a_past n_saved a_errors n_hash r33 _ hw) wd_634 wd_40 wd_631 wd_633 wd_12 (by decide +kernel) rfl ⟨Nat.le_of_ble_eq_true rfl, Nat.le_of_ble_eq_true rfl⟩ [0, 1, 2, 3] [] rfl rfl rfl rfl (by decide) rfl rfl rfl (Nat.le_of_ble_eq_true rfl) ⟨Nat.le_of_ble_eq_true rfl, Nat.le_of_ble_eq_true rfl⟩ dX9_accept_141 (fun v ws' hp => ?_)
                  obtain ⟨r46, g47, rfl, rfl, hw⟩ := hp
                  refine V_cast [(8, .int r33), (7, .int (a_now 5)), (6, .int 0), (5, .int r15), (0, .ref h0), (1, .int p1), (2, .int p2), (3, .int p3), (4, .int p4)] [.int r46] [(h0, .inr (8, [.ref h1, .ref h2, .int n_saved, .ref h3, .long n_hash])), (h1, .inl (E.2.1, 404, .inl g34)), (h2, .inl (E.2.1, 1212, .inl a_past)), (h3, .inl (E.2.1, 9, .inl g47))] [0, 1, 2, 3, 4, 5, 6, 7, 8] [0, 1, 2, 3] rfl rfl rfl rfl ?_
                  exact V_iret hC hr ⟨r46, g34, a_past, n_saved, g47, rfl, rfl, hw⟩ dX9_accept_144
              · have hw := hw.2 c32
                refine V_iconst hC 1 dX9_accept_98 (by decide) ?_
                refine V_goto hC 103 (by decide) dX9_accept_99 ?_
                refine V_istore hC [(6, .int 1), (5, .int r15), (0, .ref h0), (1, .int p1), (2, .int p2), (3, .int p3), (4, .int p4)] (by decide) rfl dX9_accept_103 ?_
                refine V_aload_n hC 2 rfl rfl dX9_accept_105 ?_
                refine V_get hC inX9 rfl 0 (by decide) wd_611 0 rfl rfl dX9_accept_106 ?_
                refine V_iconst hC 5 dX9_accept_109 (by decide) ?_
                refine V_iald hC 5 (by decide) 1 rfl (by unfold vp_in; decide) dX9_accept_110 ?_
                refine V_istore hC [(7, .int (a_now 5)), (6, .int 1), (5, .int r15), (0, .ref h0), (1, .int p1), (2, .int p2), (3, .int p3), (4, .int p4)] (by decide) rfl dX9_accept_111 ?_
                refine V_iload hC 1 rfl dX9_accept_113 ?_
                refine V_if_eq hC 122 (by decide) dX9_accept_115 (fun c => absurd c (by decide)) (fun c => ?_)
                refine V_iconst hC 0 dX9_accept_118 (by decide) ?_
                refine V_goto hC 131 (by decide) dX9_accept_119 ?_
                refine V_istore hC [(8, .int 0), (7, .int (a_now 5)), (6, .int 1), (5, .int r15), (0, .ref h0), (1, .int p1), (2, .int p2), (3, .int p3), (4, .int p4)] (by decide) rfl dX9_accept_131 ?_
                refine V_iload hC 0 rfl dX9_accept_133 ?_
                refine V_if_ge hC 145 (by decide) dX9_accept_135 (fun c => ?_) (fun c => absurd (by decide) c)
                refine V_aload_n hC 4 rfl rfl dX9_accept_145 ?_
                refine V_get hC inX9 rfl 0 (by decide) wd_611 0 rfl rfl dX9_accept_146 ?_
                refine V_iconst hC 5 dX9_accept_149 (by decide) ?_
                refine V_iald hC 5 (by decide) 1 rfl (by unfold vp_in; decide) dX9_accept_150 ?_
                refine V_istore hC [(9, .int (a_now 5)), (8, .int 0), (7, .int (a_now 5)), (6, .int 1), (5, .int r15), (0, .ref h0), (1, .int p1), (2, .int p2), (3, .int p3), (4, .int p4)] (by decide) rfl dX9_accept_151 ?_
                refine V_aload_n hC 5 rfl rfl dX9_accept_153 ?_
                refine V_get hC inX9 rfl 0 (by decide) wd_611 0 rfl rfl dX9_accept_154 ?_
                refine V_iconst hC 5 dX9_accept_157 (by decide) ?_
                refine V_iload hC 2 rfl dX9_accept_158 ?_
                refine V_iast hC 5 (by decide) 1 rfl (by unfold vp_in; decide) dX9_accept_160 (fun f48 ef48 => ?_)
                have hw := hw f48 ef48
                refine V_ws [(h0, .inr (8, [.ref h1, .ref h2, .int n_saved, .ref h3, .long n_hash])), (h1, .inl (E.2.1, 404, .inl f48)), (h2, .inl (E.2.1, 1212, .inl a_past)), (h3, .inl (E.2.1, 9, .inl a_errors))] rfl ?_
                refine V_aload_n hC 5 rfl rfl dX9_accept_161 ?_
                refine V_callV hC (wr := []) 0 [] [] (ct_X9_saves l E h0 h1 h2 h3 f48 a_past n_saved a_errors n_hash _ hw) wd_645 wd_40 wd_642 wd_644 wd_13 (by decide +kernel) rfl ⟨Nat.le_of_ble_eq_true rfl, Nat.le_of_ble_eq_true rfl⟩ [0, 1, 2, 3] [] rfl rfl rfl rfl (by decide) rfl rfl rfl (Nat.le_of_ble_eq_true rfl) ⟨Nat.le_of_ble_eq_true rfl, Nat.le_of_ble_eq_true rfl⟩ dX9_accept_162 (fun v ws' hp => ?_)
                obtain ⟨g49, s50, rfl, rfl, hw⟩ := hp
                refine V_cast [(9, .int (a_now 5)), (8, .int 0), (7, .int (a_now 5)), (6, .int 1), (5, .int r15), (0, .ref h0), (1, .int p1), (2, .int p2), (3, .int p3), (4, .int p4)] [] [(h0, .inr (8, [.ref h1, .ref h2, .int s50, .ref h3, .long n_hash])), (h1, .inl (E.2.1, 404, .inl f48)), (h2, .inl (E.2.1, 1212, .inl g49)), (h3, .inl (E.2.1, 9, .inl a_errors))] [0, 1, 2, 3, 4, 5, 6, 7, 8, 9] [0, 1, 2, 3] rfl rfl rfl rfl ?_
                refine V_aload_n hC 5 rfl rfl dX9_accept_165 ?_
                refine V_get hC inX9 rfl 0 (by decide) wd_611 0 rfl rfl dX9_accept_166 ?_
                refine V_iconst hC 5 dX9_accept_169 (by decide) ?_
                refine V_iload hC 0 rfl dX9_accept_170 ?_
                refine V_iast hC 5 (by decide) 1 rfl (by unfold vp_in; decide) dX9_accept_172 (fun f51 ef51 => ?_)
                have hw := hw f51 ef51
                refine V_ws [(h0, .inr (8, [.ref h1, .ref h2, .int s50, .ref h3, .long n_hash])), (h1, .inl (E.2.1, 404, .inl f51)), (h2, .inl (E.2.1, 1212, .inl g49)), (h3, .inl (E.2.1, 9, .inl a_errors))] rfl ?_
                refine V_iload hC 3 rfl dX9_accept_173 ?_
                refine V_if_eq hC 191 (by decide) dX9_accept_175 (fun c => absurd c (by decide)) (fun c => ?_)
                refine V_aload_n hC 5 rfl rfl dX9_accept_178 ?_
                refine V_bipush hC 24 dX9_accept_179 (by decide) ?_
                refine V_iconst hC 4 dX9_accept_181 (by decide) ?_
                refine V_iconst hC 3 dX9_accept_182 (by decide) ?_
                refine V_iload hC 4 rfl dX9_accept_183 ?_
                refine V_callV hC (wr := []) 4 [.int 24, .int 4, .int 3, .int r15] [] (ct_X9_drops l E h0 h1 h2 h3 f51 g49 s50 a_errors n_hash 24 4 3 r15 _ hw) wd_653 wd_40 wd_650 wd_652 wd_15 (by decide +kernel) rfl ⟨Nat.le_of_ble_eq_true rfl, Nat.le_of_ble_eq_true rfl⟩ [0, 1, 2, 3] [] rfl rfl rfl rfl (by decide) rfl rfl rfl (Nat.le_of_ble_eq_true rfl) ⟨Nat.le_of_ble_eq_true rfl, Nat.le_of_ble_eq_true rfl⟩ dX9_accept_185 (fun v ws' hp => ?_)
                obtain ⟨g52, rfl, rfl, hw⟩ := hp
                refine V_cast [(9, .int (a_now 5)), (8, .int 0), (7, .int (a_now 5)), (6, .int 1), (5, .int r15), (0, .ref h0), (1, .int p1), (2, .int p2), (3, .int p3), (4, .int p4)] [] [(h0, .inr (8, [.ref h1, .ref h2, .int s50, .ref h3, .long n_hash])), (h1, .inl (E.2.1, 404, .inl g52)), (h2, .inl (E.2.1, 1212, .inl g49)), (h3, .inl (E.2.1, 9, .inl a_errors))] [0, 1, 2, 3, 4, 5, 6, 7, 8, 9] [0, 1, 2, 3] rfl rfl rfl rfl ?_
                refine V_goto hC 198 (by decide) dX9_accept_188 ?_
                refine V_aload_n hC 5 rfl rfl dX9_accept_198 ?_
                refine V_get hC inX9 rfl 0 (by decide) wd_611 0 rfl rfl dX9_accept_199 ?_
                refine V_aload_n hC 5 rfl rfl dX9_accept_202 ?_
                refine V_iload_n hC 6 rfl rfl dX9_accept_203 ?_
                refine V_iload_n hC 7 rfl rfl dX9_accept_204 ?_
                refine V_callV hC (wr := []) 2 [.int p1, .int p2] [.ref h1] (ct_X9_sizeAt l E h0 h1 h2 h3 g52 g49 s50 a_errors n_hash p1 p2 _ hw) wd_685 wd_40 wd_682 wd_684 wd_19 (by decide +kernel) rfl ⟨Nat.le_of_ble_eq_true rfl, Nat.le_of_ble_eq_true rfl⟩ [0, 1, 2, 3] [] rfl rfl rfl rfl (by decide) rfl rfl rfl (Nat.le_of_ble_eq_true rfl) ⟨Nat.le_of_ble_eq_true rfl, Nat.le_of_ble_eq_true rfl⟩ dX9_accept_205 (fun v ws' hp => ?_)
                obtain ⟨r53, rfl, rfl, hw⟩ := hp
                refine V_cast [(9, .int (a_now 5)), (8, .int 0), (7, .int (a_now 5)), (6, .int 1), (5, .int r15), (0, .ref h0), (1, .int p1), (2, .int p2), (3, .int p3), (4, .int p4)] [.int r53, .ref h1] [(h0, .inr (8, [.ref h1, .ref h2, .int s50, .ref h3, .long n_hash])), (h1, .inl (E.2.1, 404, .inl g52)), (h2, .inl (E.2.1, 1212, .inl g49)), (h3, .inl (E.2.1, 9, .inl a_errors))] [0, 1, 2, 3, 4, 5, 6, 7, 8, 9] [0, 1, 2, 3] rfl rfl rfl rfl ?_
                refine V_iconst hC 1 dX9_accept_208 (by decide) ?_
                refine V_iload_n hC 8 rfl rfl dX9_accept_209 ?_
                refine V_callS hC (wr := [(h0, .inr (8, [.ref h1, .ref h2, .int s50, .ref h3, .long n_hash])), (h1, .inl (E.2.1, 404, .inl g52)), (h2, .inl (E.2.1, 1212, .inl g49)), (h3, .inl (E.2.1, 9, .inl a_errors))]) 1 [.int p3] [.int 1, .int r53, .ref h1] (ct_X9_optionOf l E p3 _ hw) wd_739 wd_40 wd_737 wd_738 (by decide +kernel) rfl ⟨Nat.le_of_ble_eq_true rfl, Nat.le_of_ble_eq_true rfl⟩ [] [0, 1, 2, 3] rfl rfl rfl rfl (by decide) rfl (Nat.le_of_ble_eq_true rfl) ⟨Nat.le_of_ble_eq_true rfl, Nat.le_of_ble_eq_true rfl⟩ dX9_accept_210 (fun v ws' hp => ?_)
                obtain ⟨r54, rfl, rfl, hw⟩ := hp
                refine V_cast [(9, .int (a_now 5)), (8, .int 0), (7, .int (a_now 5)), (6, .int 1), (5, .int r15), (0, .ref h0), (1, .int p1), (2, .int p2), (3, .int p3), (4, .int p4)] [.int r54, .int 1, .int r53, .ref h1] [(h0, .inr (8, [.ref h1, .ref h2, .int s50, .ref h3, .long n_hash])), (h1, .inl (E.2.1, 404, .inl g52)), (h2, .inl (E.2.1, 1212, .inl g49)), (h3, .inl (E.2.1, 9, .inl a_errors))] [0, 1, 2, 3, 4, 5, 6, 7, 8, 9] [0, 1, 2, 3] rfl rfl rfl rfl ?_
                refine V_iadd hC dX9_accept_213 ?_
                refine V_iast hC _ rfl 1 rfl hw.1 dX9_accept_214 (fun f55 ef55 => ?_)
                have hw := hw.2
                have hw := hw f55 ef55
                refine V_ws [(h0, .inr (8, [.ref h1, .ref h2, .int s50, .ref h3, .long n_hash])), (h1, .inl (E.2.1, 404, .inl f55)), (h2, .inl (E.2.1, 1212, .inl g49)), (h3, .inl (E.2.1, 9, .inl a_errors))] rfl ?_
                refine V_iload_n hC 8 rfl rfl dX9_accept_215 ?_
                refine V_callS hC (wr := [(h0, .inr (8, [.ref h1, .ref h2, .int s50, .ref h3, .long n_hash])), (h1, .inl (E.2.1, 404, .inl f55)), (h2, .inl (E.2.1, 1212, .inl g49)), (h3, .inl (E.2.1, 9, .inl a_errors))]) 1 [.int p3] [] (ct_X9_optionOf l E p3 _ hw) wd_739 wd_40 wd_737 wd_738 (by decide +kernel) rfl ⟨Nat.le_of_ble_eq_true rfl, Nat.le_of_ble_eq_true rfl⟩ [] [0, 1, 2, 3] rfl rfl rfl rfl (by decide) rfl (Nat.le_of_ble_eq_true rfl) ⟨Nat.le_of_ble_eq_true rfl, Nat.le_of_ble_eq_true rfl⟩ dX9_accept_216 (fun v ws' hp => ?_)
                obtain ⟨r56, rfl, rfl, hw⟩ := hp
                refine V_cast [(9, .int (a_now 5)), (8, .int 0), (7, .int (a_now 5)), (6, .int 1), (5, .int r15), (0, .ref h0), (1, .int p1), (2, .int p2), (3, .int p3), (4, .int p4)] [.int r56] [(h0, .inr (8, [.ref h1, .ref h2, .int s50, .ref h3, .long n_hash])), (h1, .inl (E.2.1, 404, .inl f55)), (h2, .inl (E.2.1, 1212, .inl g49)), (h3, .inl (E.2.1, 9, .inl a_errors))] [0, 1, 2, 3, 4, 5, 6, 7, 8, 9] [0, 1, 2, 3] rfl rfl rfl rfl ?_
                refine V_callS hC (wr := [(h0, .inr (8, [.ref h1, .ref h2, .int s50, .ref h3, .long n_hash])), (h1, .inl (E.2.1, 404, .inl f55)), (h2, .inl (E.2.1, 1212, .inl g49)), (h3, .inl (E.2.1, 9, .inl a_errors))]) 1 [.int r56] [] (ct_X9_sizeOf l E r56 _ hw) wd_691 wd_40 wd_689 wd_690 (by decide +kernel) rfl ⟨Nat.le_of_ble_eq_true rfl, Nat.le_of_ble_eq_true rfl⟩ [] [0, 1, 2, 3] rfl rfl rfl rfl (by decide) rfl (Nat.le_of_ble_eq_true rfl) ⟨Nat.le_of_ble_eq_true rfl, Nat.le_of_ble_eq_true rfl⟩ dX9_accept_219 (fun v ws' hp => ?_)
                obtain ⟨r57, rfl, rfl, hw⟩ := hp
                refine V_cast [(9, .int (a_now 5)), (8, .int 0), (7, .int (a_now 5)), (6, .int 1), (5, .int r15), (0, .ref h0), (1, .int p1), (2, .int p2), (3, .int p3), (4, .int p4)] [.int r57] [(h0, .inr (8, [.ref h1, .ref h2, .int s50, .ref h3, .long n_hash])), (h1, .inl (E.2.1, 404, .inl f55)), (h2, .inl (E.2.1, 1212, .inl g49)), (h3, .inl (E.2.1, 9, .inl a_errors))] [0, 1, 2, 3, 4, 5, 6, 7, 8, 9] [0, 1, 2, 3] rfl rfl rfl rfl ?_
                exact V_iret hC hr ⟨r57, f55, g49, s50, a_errors, rfl, rfl, hw⟩ dX9_accept_222
          · have hw := hw.2 c14
            refine V_aload_n hC 0 rfl rfl dX9_accept_59 ?_
            refine V_bipush hC (-4) dX9_accept_60 (by decide) ?_
            refine V_callV hC (wr := []) 1 [.int (-4)] [] (ct_X9_fails l E h0 h1 h2 h3 a_now a_past n_saved a_errors n_hash (-4) _ hw) wd_634 wd_40 wd_631 wd_633 wd_12 (by decide +kernel) rfl ⟨Nat.le_of_ble_eq_true rfl, Nat.le_of_ble_eq_true rfl⟩ [0, 1, 2, 3] [] rfl rfl rfl rfl (by decide) rfl rfl rfl (Nat.le_of_ble_eq_true rfl) ⟨Nat.le_of_ble_eq_true rfl, Nat.le_of_ble_eq_true rfl⟩ dX9_accept_62 (fun v ws' hp => ?_)
            obtain ⟨r58, g59, rfl, rfl, hw⟩ := hp
            refine V_cast [(0, .ref h0), (1, .int p1), (2, .int p2), (3, .int p3), (4, .int p4)] [.int r58] [(h0, .inr (8, [.ref h1, .ref h2, .int n_saved, .ref h3, .long n_hash])), (h1, .inl (E.2.1, 404, .inl a_now)), (h2, .inl (E.2.1, 1212, .inl a_past)), (h3, .inl (E.2.1, 9, .inl g59))] [0, 1, 2, 3, 4] [0, 1, 2, 3] rfl rfl rfl rfl ?_
            exact V_iret hC hr ⟨r58, a_now, a_past, n_saved, g59, rfl, rfl, hw⟩ dX9_accept_65
        · have hw := hw.2 c12
          refine V_aload_n hC 0 rfl rfl dX9_accept_43 ?_
          refine V_bipush hC (-3) dX9_accept_44 (by decide) ?_
          refine V_callV hC (wr := []) 1 [.int (-3)] [] (ct_X9_fails l E h0 h1 h2 h3 a_now a_past n_saved a_errors n_hash (-3) _ hw) wd_634 wd_40 wd_631 wd_633 wd_12 (by decide +kernel) rfl ⟨Nat.le_of_ble_eq_true rfl, Nat.le_of_ble_eq_true rfl⟩ [0, 1, 2, 3] [] rfl rfl rfl rfl (by decide) rfl rfl rfl (Nat.le_of_ble_eq_true rfl) ⟨Nat.le_of_ble_eq_true rfl, Nat.le_of_ble_eq_true rfl⟩ dX9_accept_46 (fun v ws' hp => ?_)
          obtain ⟨r60, g61, rfl, rfl, hw⟩ := hp
          refine V_cast [(0, .ref h0), (1, .int p1), (2, .int p2), (3, .int p3), (4, .int p4)] [.int r60] [(h0, .inr (8, [.ref h1, .ref h2, .int n_saved, .ref h3, .long n_hash])), (h1, .inl (E.2.1, 404, .inl a_now)), (h2, .inl (E.2.1, 1212, .inl a_past)), (h3, .inl (E.2.1, 9, .inl g61))] [0, 1, 2, 3, 4] [0, 1, 2, 3] rfl rfl rfl rfl ?_
          exact V_iret hC hr ⟨r60, a_now, a_past, n_saved, g61, rfl, rfl, hw⟩ dX9_accept_49
      · have hw := hw.2 c10
        refine V_aload_n hC 0 rfl rfl dX9_accept_27 ?_
        refine V_bipush hC (-2) dX9_accept_28 (by decide) ?_
        refine V_callV hC (wr := []) 1 [.int (-2)] [] (ct_X9_fails l E h0 h1 h2 h3 a_now a_past n_saved a_errors n_hash (-2) _ hw) wd_634 wd_40 wd_631 wd_633 wd_12 (by decide +kernel) rfl ⟨Nat.le_of_ble_eq_true rfl, Nat.le_of_ble_eq_true rfl⟩ [0, 1, 2, 3] [] rfl rfl rfl rfl (by decide) rfl rfl rfl (Nat.le_of_ble_eq_true rfl) ⟨Nat.le_of_ble_eq_true rfl, Nat.le_of_ble_eq_true rfl⟩ dX9_accept_30 (fun v ws' hp => ?_)
        obtain ⟨r62, g63, rfl, rfl, hw⟩ := hp
        refine V_cast [(0, .ref h0), (1, .int p1), (2, .int p2), (3, .int p3), (4, .int p4)] [.int r62] [(h0, .inr (8, [.ref h1, .ref h2, .int n_saved, .ref h3, .long n_hash])), (h1, .inl (E.2.1, 404, .inl a_now)), (h2, .inl (E.2.1, 1212, .inl a_past)), (h3, .inl (E.2.1, 9, .inl g63))] [0, 1, 2, 3, 4] [0, 1, 2, 3] rfl rfl rfl rfl ?_
        exact V_iret hC hr ⟨r62, a_now, a_past, n_saved, g63, rfl, rfl, hw⟩ dX9_accept_33
abbrev po_X9_close (E : EN) (h0 : Nat) (h1 : Nat) (h2 : Nat) (h3 : Nat) (n_hash : Int64) (K : Int32 → (Nat → Int32) → (Nat → Int32) → Int32 → (Nat → Int32) → Prop) : Option Value → va_W → Prop := fun v ws' => ∃ (r0 : Int32) (a_now : Nat → Int32) (a_past : Nat → Int32) (n_saved : Int32) (a_errors : Nat → Int32), v = some (.int r0) ∧ ws' = [(h0, .inr (8, [.ref h1, .ref h2, .int n_saved, .ref h3, .long n_hash])), (h1, .inl (E.2.1, 404, .inl a_now)), (h2, .inl (E.2.1, 1212, .inl a_past)), (h3, .inl (E.2.1, 9, .inl a_errors))] ∧ K r0 a_now a_past n_saved a_errors
def wp_X9_close (a_now : Nat → Int32) (a_past : Nat → Int32) (n_saved : Int32) (a_errors : Nat → Int32) (n_hash : Int64) (p1 : Int32) (p2 : Int32) (K : Int32 → (Nat → Int32) → (Nat → Int32) → Int32 → (Nat → Int32) → Prop) : Prop := (wp_X9_isPort p1 p2 (fun (r1 : Int32) => ((¬ r1 = 0 → (wp_X9_isConnected a_now a_past n_saved a_errors n_hash p1 p2 (fun (r3 : Int32) => ((¬ r3 = 0 → (wp_X9_saves a_now a_past n_saved a_errors n_hash (fun (g5 : Nat → Int32) (s6 : Int32) => (wp_X9_sizeAt a_now g5 s6 a_errors n_hash p1 p2 (fun (r7 : Int32) => (vp_in r7 404 ∧ (∀ f8 : Nat → Int32, f8 = upd a_now (Int32.toNatClampNeg r7) 0 → (wp_X9_connectionsOf f8 g5 s6 a_errors n_hash p1 (fun (r9 : Int32) => ((¬ r9 = 0 → K r9 f8 g5 s6 a_errors) ∧ (r9 = 0 → (vp_in (228 + p1) 404 ∧ (∀ f11 : Nat → Int32, f11 = upd f8 (Int32.toNatClampNeg (228 + p1)) 0 → (vp_in (372 + p1) 404 ∧ (∀ f12 : Nat → Int32, f12 = upd f11 (Int32.toNatClampNeg (372 + p1)) 0 → K r9 f12 g5 s6 a_errors))))))))))))))) ∧ (r3 = 0 → (wp_X9_fails a_now a_past n_saved a_errors n_hash (-9) (fun (r13 : Int32) (g14 : Nat → Int32) => K r13 a_now a_past n_saved g14))))))) ∧ (r1 = 0 → (wp_X9_fails a_now a_past n_saved a_errors n_hash (-2) (fun (r15 : Int32) (g16 : Nat → Int32) => K r15 a_now a_past n_saved g16))))))
set_option maxRecDepth 100000 in
set_option maxHeartbeats 4000000 in
theorem ct_X9_close (l : Launch) (E : EN) (h0 : Nat) (h1 : Nat) (h2 : Nat) (h3 : Nat) (a_now : Nat → Int32) (a_past : Nat → Int32) (n_saved : Int32) (a_errors : Nat → Int32) (n_hash : Int64) (p1 : Int32) (p2 : Int32) (K : Int32 → (Nat → Int32) → (Nat → Int32) → Int32 → (Nat → Int32) → Prop) (hw : wp_X9_close a_now a_past n_saved a_errors n_hash p1 p2 K) : Con l yX9_close cX9_close 4 (some .int) { frames := 3, cells := 0, slots := 0, locals := 67 } E [.ref h0, .int p1, .int p2] [(h0, .inr (8, [.ref h1, .ref h2, .int n_saved, .ref h3, .long n_hash])), (h1, .inl (E.2.1, 404, .inl a_now)), (h2, .inl (E.2.1, 1212, .inl a_past)), (h3, .inl (E.2.1, 9, .inl a_errors))] (po_X9_close E h0 h1 h2 h3 n_hash K) := by
  refine Con.mk (by decide +kernel) (Nat.le_of_ble_eq_true rfl) ?_
  intro p e s m below meth c A hC hr hin
  have hC : Cx p s m _ meth c E A cX9_close 4 "CookieServerModel" := hC
  rw [wp_X9_close] at hw
  refine V_cast [(0, .ref h0), (1, .int p1), (2, .int p2)] [] [(h0, .inr (8, [.ref h1, .ref h2, .int n_saved, .ref h3, .long n_hash])), (h1, .inl (E.2.1, 404, .inl a_now)), (h2, .inl (E.2.1, 1212, .inl a_past)), (h3, .inl (E.2.1, 9, .inl a_errors))] [0, 1, 2] [0, 1, 2, 3] rfl rfl rfl rfl ?_
  refine V_iload_n hC 1 rfl rfl dX9_close_0 ?_
  refine V_iload_n hC 2 rfl rfl dX9_close_1 ?_
  refine V_callS hC (wr := [(h0, .inr (8, [.ref h1, .ref h2, .int n_saved, .ref h3, .long n_hash])), (h1, .inl (E.2.1, 404, .inl a_now)), (h2, .inl (E.2.1, 1212, .inl a_past)), (h3, .inl (E.2.1, 9, .inl a_errors))]) 2 [.int p1, .int p2] [] (ct_X9_isPort l E p1 p2 _ hw) wd_677 wd_40 wd_675 wd_676 (by decide +kernel) rfl ⟨Nat.le_of_ble_eq_true rfl, Nat.le_of_ble_eq_true rfl⟩ [] [0, 1, 2, 3] rfl rfl rfl rfl (by decide) rfl (Nat.le_of_ble_eq_true rfl) ⟨Nat.le_of_ble_eq_true rfl, Nat.le_of_ble_eq_true rfl⟩ dX9_close_2 (fun v ws' hp => ?_)
  obtain ⟨r1, rfl, rfl, hw⟩ := hp
  refine V_cast [(0, .ref h0), (1, .int p1), (2, .int p2)] [.int r1] [(h0, .inr (8, [.ref h1, .ref h2, .int n_saved, .ref h3, .long n_hash])), (h1, .inl (E.2.1, 404, .inl a_now)), (h2, .inl (E.2.1, 1212, .inl a_past)), (h3, .inl (E.2.1, 9, .inl a_errors))] [0, 1, 2] [0, 1, 2, 3] rfl rfl rfl rfl ?_
  refine V_if_ne hC 15 (by decide) dX9_close_5 (fun c2 => ?_) (fun c2 => ?_)
  · have hw := hw.1 c2
    refine V_aload_n hC 0 rfl rfl dX9_close_15 ?_
    refine V_iload_n hC 1 rfl rfl dX9_close_16 ?_
    refine V_iload_n hC 2 rfl rfl dX9_close_17 ?_
    refine V_callV hC (wr := []) 2 [.int p1, .int p2] [] (ct_X9_isConnected l E h0 h1 h2 h3 a_now a_past n_saved a_errors n_hash p1 p2 _ hw) wd_681 wd_40 wd_678 wd_680 wd_18 (by decide +kernel) rfl ⟨Nat.le_of_ble_eq_true rfl, Nat.le_of_ble_eq_true rfl⟩ [0, 1, 2, 3] [] rfl rfl rfl rfl (by decide) rfl rfl rfl (Nat.le_of_ble_eq_true rfl) ⟨Nat.le_of_ble_eq_true rfl, Nat.le_of_ble_eq_true rfl⟩ dX9_close_18 (fun v ws' hp => ?_)
    obtain ⟨r3, rfl, rfl, hw⟩ := hp
    refine V_cast [(0, .ref h0), (1, .int p1), (2, .int p2)] [.int r3] [(h0, .inr (8, [.ref h1, .ref h2, .int n_saved, .ref h3, .long n_hash])), (h1, .inl (E.2.1, 404, .inl a_now)), (h2, .inl (E.2.1, 1212, .inl a_past)), (h3, .inl (E.2.1, 9, .inl a_errors))] [0, 1, 2] [0, 1, 2, 3] rfl rfl rfl rfl ?_
    refine V_if_ne hC 31 (by decide) dX9_close_21 (fun c4 => ?_) (fun c4 => ?_)
    · have hw := hw.1 c4
      refine V_aload_n hC 0 rfl rfl dX9_close_31 ?_
      refine V_callV hC (wr := []) 0 [] [] (ct_X9_saves l E h0 h1 h2 h3 a_now a_past n_saved a_errors n_hash _ hw) wd_645 wd_40 wd_642 wd_644 wd_13 (by decide +kernel) rfl ⟨Nat.le_of_ble_eq_true rfl, Nat.le_of_ble_eq_true rfl⟩ [0, 1, 2, 3] [] rfl rfl rfl rfl (by decide) rfl rfl rfl (Nat.le_of_ble_eq_true rfl) ⟨Nat.le_of_ble_eq_true rfl, Nat.le_of_ble_eq_true rfl⟩ dX9_close_32 (fun v ws' hp => ?_)
      obtain ⟨g5, s6, rfl, rfl, hw⟩ := hp
      refine V_cast [(0, .ref h0), (1, .int p1), (2, .int p2)] [] [(h0, .inr (8, [.ref h1, .ref h2, .int s6, .ref h3, .long n_hash])), (h1, .inl (E.2.1, 404, .inl a_now)), (h2, .inl (E.2.1, 1212, .inl g5)), (h3, .inl (E.2.1, 9, .inl a_errors))] [0, 1, 2] [0, 1, 2, 3] rfl rfl rfl rfl ?_
      refine V_aload_n hC 0 rfl rfl dX9_close_35 ?_
      refine V_get hC inX9 rfl 0 (by decide) wd_611 0 rfl rfl dX9_close_36 ?_
      refine V_aload_n hC 0 rfl rfl dX9_close_39 ?_
      refine V_iload_n hC 1 rfl rfl dX9_close_40 ?_
      refine V_iload_n hC 2 rfl rfl dX9_close_41 ?_
      refine V_callV hC (wr := []) 2 [.int p1, .int p2] [.ref h1] (ct_X9_sizeAt l E h0 h1 h2 h3 a_now g5 s6 a_errors n_hash p1 p2 _ hw) wd_685 wd_40 wd_682 wd_684 wd_19 (by decide +kernel) rfl ⟨Nat.le_of_ble_eq_true rfl, Nat.le_of_ble_eq_true rfl⟩ [0, 1, 2, 3] [] rfl rfl rfl rfl (by decide) rfl rfl rfl (Nat.le_of_ble_eq_true rfl) ⟨Nat.le_of_ble_eq_true rfl, Nat.le_of_ble_eq_true rfl⟩ dX9_close_42 (fun v ws' hp => ?_)
      obtain ⟨r7, rfl, rfl, hw⟩ := hp
      refine V_cast [(0, .ref h0), (1, .int p1), (2, .int p2)] [.int r7, .ref h1] [(h0, .inr (8, [.ref h1, .ref h2, .int s6, .ref h3, .long n_hash])), (h1, .inl (E.2.1, 404, .inl a_now)), (h2, .inl (E.2.1, 1212, .inl g5)), (h3, .inl (E.2.1, 9, .inl a_errors))] [0, 1, 2] [0, 1, 2, 3] rfl rfl rfl rfl ?_
      refine V_iconst hC 0 dX9_close_45 (by decide) ?_
      refine V_iast hC _ rfl 1 rfl hw.1 dX9_close_46 (fun f8 ef8 => ?_)
      have hw := hw.2
      have hw := hw f8 ef8
      refine V_ws [(h0, .inr (8, [.ref h1, .ref h2, .int s6, .ref h3, .long n_hash])), (h1, .inl (E.2.1, 404, .inl f8)), (h2, .inl (E.2.1, 1212, .inl g5)), (h3, .inl (E.2.1, 9, .inl a_errors))] rfl ?_
      refine V_aload_n hC 0 rfl rfl dX9_close_47 ?_
      refine V_iload_n hC 1 rfl rfl dX9_close_48 ?_
      refine V_callV hC (wr := []) 1 [.int p1] [] (ct_X9_connectionsOf l E h0 h1 h2 h3 f8 g5 s6 a_errors n_hash p1 _ hw) wd_724 wd_40 wd_721 wd_723 wd_22 (by decide +kernel) rfl ⟨Nat.le_of_ble_eq_true rfl, Nat.le_of_ble_eq_true rfl⟩ [0, 1, 2, 3] [] rfl rfl rfl rfl (by decide) rfl rfl rfl (Nat.le_of_ble_eq_true rfl) ⟨Nat.le_of_ble_eq_true rfl, Nat.le_of_ble_eq_true rfl⟩ dX9_close_49 (fun v ws' hp => ?_)
      obtain ⟨r9, rfl, rfl, hw⟩ := hp
      refine V_cast [(0, .ref h0), (1, .int p1), (2, .int p2)] [.int r9] [(h0, .inr (8, [.ref h1, .ref h2, .int s6, .ref h3, .long n_hash])), (h1, .inl (E.2.1, 404, .inl f8)), (h2, .inl (E.2.1, 1212, .inl g5)), (h3, .inl (E.2.1, 9, .inl a_errors))] [0, 1, 2] [0, 1, 2, 3] rfl rfl rfl rfl ?_
      refine V_istore_n hC [(3, .int r9), (0, .ref h0), (1, .int p1), (2, .int p2)] rfl (by decide) rfl dX9_close_52 ?_
      refine V_iload_n hC 0 rfl rfl dX9_close_53 ?_
      refine V_if_ne hC 79 (by decide) dX9_close_54 (fun c10 => ?_) (fun c10 => ?_)
      · have hw := hw.1 c10
        refine V_iload_n hC 0 rfl rfl dX9_close_79 ?_
        exact V_iret hC hr ⟨r9, f8, g5, s6, a_errors, rfl, rfl, hw⟩ dX9_close_80
      · have hw := hw.2 c10
        refine V_aload_n hC 1 rfl rfl dX9_close_57 ?_
        refine V_get hC inX9 rfl 0 (by decide) wd_611 0 rfl rfl dX9_close_58 ?_
        refine V_sipush hC 228 dX9_close_61 (by decide) ?_
        refine V_iload_n hC 2 rfl rfl dX9_close_64 ?_
        refine V_iadd hC dX9_close_65 ?_
        refine V_iconst hC 0 dX9_close_66 (by decide) ?_
        refine V_iast hC _ rfl 1 rfl hw.1 dX9_close_67 (fun f11 ef11 => ?_)
        have hw := hw.2
        have hw := hw f11 ef11
        refine V_ws [(h0, .inr (8, [.ref h1, .ref h2, .int s6, .ref h3, .long n_hash])), (h1, .inl (E.2.1, 404, .inl f11)), (h2, .inl (E.2.1, 1212, .inl g5)), (h3, .inl (E.2.1, 9, .inl a_errors))] rfl ?_
        refine V_aload_n hC 1 rfl rfl dX9_close_68 ?_
        refine V_get hC inX9 rfl 0 (by decide) wd_611 0 rfl rfl dX9_close_69 ?_
        refine V_sipush hC 372 dX9_close_72 (by decide) ?_
        refine V_iload_n hC 2 rfl rfl dX9_close_75 ?_
        refine V_iadd hC dX9_close_76 ?_
        refine V_iconst hC 0 dX9_close_77 (by decide) ?_
        refine V_iast hC _ rfl 1 rfl hw.1 dX9_close_78 (fun f12 ef12 => ?_)
        have hw := hw.2
        have hw := hw f12 ef12
        refine V_ws [(h0, .inr (8, [.ref h1, .ref h2, .int s6, .ref h3, .long n_hash])), (h1, .inl (E.2.1, 404, .inl f12)), (h2, .inl (E.2.1, 1212, .inl g5)), (h3, .inl (E.2.1, 9, .inl a_errors))] rfl ?_
        refine V_iload_n hC 0 rfl rfl dX9_close_79 ?_
        exact V_iret hC hr ⟨r9, f12, g5, s6, a_errors, rfl, rfl, hw⟩ dX9_close_80
    · have hw := hw.2 c4
      refine V_aload_n hC 0 rfl rfl dX9_close_24 ?_
      refine V_bipush hC (-9) dX9_close_25 (by decide) ?_
      refine V_callV hC (wr := []) 1 [.int (-9)] [] (ct_X9_fails l E h0 h1 h2 h3 a_now a_past n_saved a_errors n_hash (-9) _ hw) wd_634 wd_40 wd_631 wd_633 wd_12 (by decide +kernel) rfl ⟨Nat.le_of_ble_eq_true rfl, Nat.le_of_ble_eq_true rfl⟩ [0, 1, 2, 3] [] rfl rfl rfl rfl (by decide) rfl rfl rfl (Nat.le_of_ble_eq_true rfl) ⟨Nat.le_of_ble_eq_true rfl, Nat.le_of_ble_eq_true rfl⟩ dX9_close_27 (fun v ws' hp => ?_)
      obtain ⟨r13, g14, rfl, rfl, hw⟩ := hp
      refine V_cast [(0, .ref h0), (1, .int p1), (2, .int p2)] [.int r13] [(h0, .inr (8, [.ref h1, .ref h2, .int n_saved, .ref h3, .long n_hash])), (h1, .inl (E.2.1, 404, .inl a_now)), (h2, .inl (E.2.1, 1212, .inl a_past)), (h3, .inl (E.2.1, 9, .inl g14))] [0, 1, 2] [0, 1, 2, 3] rfl rfl rfl rfl ?_
      exact V_iret hC hr ⟨r13, a_now, a_past, n_saved, g14, rfl, rfl, hw⟩ dX9_close_30
  · have hw := hw.2 c2
    refine V_aload_n hC 0 rfl rfl dX9_close_8 ?_
    refine V_bipush hC (-2) dX9_close_9 (by decide) ?_
    refine V_callV hC (wr := []) 1 [.int (-2)] [] (ct_X9_fails l E h0 h1 h2 h3 a_now a_past n_saved a_errors n_hash (-2) _ hw) wd_634 wd_40 wd_631 wd_633 wd_12 (by decide +kernel) rfl ⟨Nat.le_of_ble_eq_true rfl, Nat.le_of_ble_eq_true rfl⟩ [0, 1, 2, 3] [] rfl rfl rfl rfl (by decide) rfl rfl rfl (Nat.le_of_ble_eq_true rfl) ⟨Nat.le_of_ble_eq_true rfl, Nat.le_of_ble_eq_true rfl⟩ dX9_close_11 (fun v ws' hp => ?_)
    obtain ⟨r15, g16, rfl, rfl, hw⟩ := hp
    refine V_cast [(0, .ref h0), (1, .int p1), (2, .int p2)] [.int r15] [(h0, .inr (8, [.ref h1, .ref h2, .int n_saved, .ref h3, .long n_hash])), (h1, .inl (E.2.1, 404, .inl a_now)), (h2, .inl (E.2.1, 1212, .inl a_past)), (h3, .inl (E.2.1, 9, .inl g16))] [0, 1, 2] [0, 1, 2, 3] rfl rfl rfl rfl ?_
    exact V_iret hC hr ⟨r15, a_now, a_past, n_saved, g16, rfl, rfl, hw⟩ dX9_close_14
abbrev po_X9_segmentSize (E : EN) (h0 : Nat) (h1 : Nat) (h2 : Nat) (h3 : Nat) (a_now : Nat → Int32) (a_past : Nat → Int32) (n_saved : Int32) (n_hash : Int64) (K : Int32 → (Nat → Int32) → Prop) : Option Value → va_W → Prop := fun v ws' => ∃ (r0 : Int32) (a_errors : Nat → Int32), v = some (.int r0) ∧ ws' = [(h0, .inr (8, [.ref h1, .ref h2, .int n_saved, .ref h3, .long n_hash])), (h1, .inl (E.2.1, 404, .inl a_now)), (h2, .inl (E.2.1, 1212, .inl a_past)), (h3, .inl (E.2.1, 9, .inl a_errors))] ∧ K r0 a_errors
def wp_X9_segmentSize (a_now : Nat → Int32) (a_past : Nat → Int32) (n_saved : Int32) (a_errors : Nat → Int32) (n_hash : Int64) (p1 : Int32) (p2 : Int32) (K : Int32 → (Nat → Int32) → Prop) : Prop := (wp_X9_isPort p1 p2 (fun (r1 : Int32) => ((¬ r1 = 0 → (wp_X9_isConnected a_now a_past n_saved a_errors n_hash p1 p2 (fun (r3 : Int32) => ((r3 = 0 → K (-1) a_errors) ∧ (¬ (r3 = 0) → (wp_X9_sizeAt a_now a_past n_saved a_errors n_hash p1 p2 (fun (r5 : Int32) => (vp_in r5 404 ∧ (wp_X9_sizeOf ((a_now (Int32.toNatClampNeg r5)) - 1) (fun (r6 : Int32) => K r6 a_errors)))))))))) ∧ (r1 = 0 → (wp_X9_fails a_now a_past n_saved a_errors n_hash (-2) (fun (r7 : Int32) (g8 : Nat → Int32) => K r7 g8))))))
set_option maxRecDepth 100000 in
set_option maxHeartbeats 4000000 in
theorem ct_X9_segmentSize (l : Launch) (E : EN) (h0 : Nat) (h1 : Nat) (h2 : Nat) (h3 : Nat) (a_now : Nat → Int32) (a_past : Nat → Int32) (n_saved : Int32) (a_errors : Nat → Int32) (n_hash : Int64) (p1 : Int32) (p2 : Int32) (K : Int32 → (Nat → Int32) → Prop) (hw : wp_X9_segmentSize a_now a_past n_saved a_errors n_hash p1 p2 K) : Con l yX9_segmentSize cX9_segmentSize 3 (some .int) { frames := 2, cells := 0, slots := 0, locals := 44 } E [.ref h0, .int p1, .int p2] [(h0, .inr (8, [.ref h1, .ref h2, .int n_saved, .ref h3, .long n_hash])), (h1, .inl (E.2.1, 404, .inl a_now)), (h2, .inl (E.2.1, 1212, .inl a_past)), (h3, .inl (E.2.1, 9, .inl a_errors))] (po_X9_segmentSize E h0 h1 h2 h3 a_now a_past n_saved n_hash K) := by
  refine Con.mk (by decide +kernel) (Nat.le_of_ble_eq_true rfl) ?_
  intro p e s m below meth c A hC hr hin
  have hC : Cx p s m _ meth c E A cX9_segmentSize 3 "CookieServerModel" := hC
  rw [wp_X9_segmentSize] at hw
  refine V_cast [(0, .ref h0), (1, .int p1), (2, .int p2)] [] [(h0, .inr (8, [.ref h1, .ref h2, .int n_saved, .ref h3, .long n_hash])), (h1, .inl (E.2.1, 404, .inl a_now)), (h2, .inl (E.2.1, 1212, .inl a_past)), (h3, .inl (E.2.1, 9, .inl a_errors))] [0, 1, 2] [0, 1, 2, 3] rfl rfl rfl rfl ?_
  refine V_iload_n hC 1 rfl rfl dX9_segmentSize_0 ?_
  refine V_iload_n hC 2 rfl rfl dX9_segmentSize_1 ?_
  refine V_callS hC (wr := [(h0, .inr (8, [.ref h1, .ref h2, .int n_saved, .ref h3, .long n_hash])), (h1, .inl (E.2.1, 404, .inl a_now)), (h2, .inl (E.2.1, 1212, .inl a_past)), (h3, .inl (E.2.1, 9, .inl a_errors))]) 2 [.int p1, .int p2] [] (ct_X9_isPort l E p1 p2 _ hw) wd_677 wd_40 wd_675 wd_676 (by decide +kernel) rfl ⟨Nat.le_of_ble_eq_true rfl, Nat.le_of_ble_eq_true rfl⟩ [] [0, 1, 2, 3] rfl rfl rfl rfl (by decide) rfl (Nat.le_of_ble_eq_true rfl) ⟨Nat.le_of_ble_eq_true rfl, Nat.le_of_ble_eq_true rfl⟩ dX9_segmentSize_2 (fun v ws' hp => ?_)
  obtain ⟨r1, rfl, rfl, hw⟩ := hp
  refine V_cast [(0, .ref h0), (1, .int p1), (2, .int p2)] [.int r1] [(h0, .inr (8, [.ref h1, .ref h2, .int n_saved, .ref h3, .long n_hash])), (h1, .inl (E.2.1, 404, .inl a_now)), (h2, .inl (E.2.1, 1212, .inl a_past)), (h3, .inl (E.2.1, 9, .inl a_errors))] [0, 1, 2] [0, 1, 2, 3] rfl rfl rfl rfl ?_
  refine V_if_ne hC 17 (by decide) dX9_segmentSize_5 (fun c2 => ?_) (fun c2 => ?_)
  · have hw := hw.1 c2
    refine V_aload_n hC 0 rfl rfl dX9_segmentSize_17 ?_
    refine V_iload_n hC 1 rfl rfl dX9_segmentSize_18 ?_
    refine V_iload_n hC 2 rfl rfl dX9_segmentSize_19 ?_
    refine V_callV hC (wr := []) 2 [.int p1, .int p2] [] (ct_X9_isConnected l E h0 h1 h2 h3 a_now a_past n_saved a_errors n_hash p1 p2 _ hw) wd_681 wd_40 wd_678 wd_680 wd_18 (by decide +kernel) rfl ⟨Nat.le_of_ble_eq_true rfl, Nat.le_of_ble_eq_true rfl⟩ [0, 1, 2, 3] [] rfl rfl rfl rfl (by decide) rfl rfl rfl (Nat.le_of_ble_eq_true rfl) ⟨Nat.le_of_ble_eq_true rfl, Nat.le_of_ble_eq_true rfl⟩ dX9_segmentSize_20 (fun v ws' hp => ?_)
    obtain ⟨r3, rfl, rfl, hw⟩ := hp
    refine V_cast [(0, .ref h0), (1, .int p1), (2, .int p2)] [.int r3] [(h0, .inr (8, [.ref h1, .ref h2, .int n_saved, .ref h3, .long n_hash])), (h1, .inl (E.2.1, 404, .inl a_now)), (h2, .inl (E.2.1, 1212, .inl a_past)), (h3, .inl (E.2.1, 9, .inl a_errors))] [0, 1, 2] [0, 1, 2, 3] rfl rfl rfl rfl ?_
    refine V_if_eq hC 45 (by decide) dX9_segmentSize_23 (fun c4 => ?_) (fun c4 => ?_)
    · have hw := hw.1 c4
      refine V_iconst hC (-1) dX9_segmentSize_45 (by decide) ?_
      exact V_iret hC hr ⟨(-1), a_errors, rfl, rfl, hw⟩ dX9_segmentSize_46
    · have hw := hw.2 c4
      refine V_aload_n hC 0 rfl rfl dX9_segmentSize_26 ?_
      refine V_get hC inX9 rfl 0 (by decide) wd_611 0 rfl rfl dX9_segmentSize_27 ?_
      refine V_aload_n hC 0 rfl rfl dX9_segmentSize_30 ?_
      refine V_iload_n hC 1 rfl rfl dX9_segmentSize_31 ?_
      refine V_iload_n hC 2 rfl rfl dX9_segmentSize_32 ?_
      refine V_callV hC (wr := []) 2 [.int p1, .int p2] [.ref h1] (ct_X9_sizeAt l E h0 h1 h2 h3 a_now a_past n_saved a_errors n_hash p1 p2 _ hw) wd_685 wd_40 wd_682 wd_684 wd_19 (by decide +kernel) rfl ⟨Nat.le_of_ble_eq_true rfl, Nat.le_of_ble_eq_true rfl⟩ [0, 1, 2, 3] [] rfl rfl rfl rfl (by decide) rfl rfl rfl (Nat.le_of_ble_eq_true rfl) ⟨Nat.le_of_ble_eq_true rfl, Nat.le_of_ble_eq_true rfl⟩ dX9_segmentSize_33 (fun v ws' hp => ?_)
      obtain ⟨r5, rfl, rfl, hw⟩ := hp
      refine V_cast [(0, .ref h0), (1, .int p1), (2, .int p2)] [.int r5, .ref h1] [(h0, .inr (8, [.ref h1, .ref h2, .int n_saved, .ref h3, .long n_hash])), (h1, .inl (E.2.1, 404, .inl a_now)), (h2, .inl (E.2.1, 1212, .inl a_past)), (h3, .inl (E.2.1, 9, .inl a_errors))] [0, 1, 2] [0, 1, 2, 3] rfl rfl rfl rfl ?_
      refine V_iald hC _ rfl 1 rfl hw.1 dX9_segmentSize_36 ?_
      have hw := hw.2
      refine V_iconst hC 1 dX9_segmentSize_37 (by decide) ?_
      refine V_isub hC dX9_segmentSize_38 ?_
      refine V_callS hC (wr := [(h0, .inr (8, [.ref h1, .ref h2, .int n_saved, .ref h3, .long n_hash])), (h1, .inl (E.2.1, 404, .inl a_now)), (h2, .inl (E.2.1, 1212, .inl a_past)), (h3, .inl (E.2.1, 9, .inl a_errors))]) 1 [.int ((a_now (Int32.toNatClampNeg r5)) - 1)] [] (ct_X9_sizeOf l E ((a_now (Int32.toNatClampNeg r5)) - 1) _ hw) wd_691 wd_40 wd_689 wd_690 (by decide +kernel) rfl ⟨Nat.le_of_ble_eq_true rfl, Nat.le_of_ble_eq_true rfl⟩ [] [0, 1, 2, 3] rfl rfl rfl rfl (by decide) rfl (Nat.le_of_ble_eq_true rfl) ⟨Nat.le_of_ble_eq_true rfl, Nat.le_of_ble_eq_true rfl⟩ dX9_segmentSize_39 (fun v ws' hp => ?_)
      obtain ⟨r6, rfl, rfl, hw⟩ := hp
      refine V_cast [(0, .ref h0), (1, .int p1), (2, .int p2)] [.int r6] [(h0, .inr (8, [.ref h1, .ref h2, .int n_saved, .ref h3, .long n_hash])), (h1, .inl (E.2.1, 404, .inl a_now)), (h2, .inl (E.2.1, 1212, .inl a_past)), (h3, .inl (E.2.1, 9, .inl a_errors))] [0, 1, 2] [0, 1, 2, 3] rfl rfl rfl rfl ?_
      refine V_goto hC 46 (by decide) dX9_segmentSize_42 ?_
      exact V_iret hC hr ⟨r6, a_errors, rfl, rfl, hw⟩ dX9_segmentSize_46
  · have hw := hw.2 c2
    refine V_aload_n hC 0 rfl rfl dX9_segmentSize_8 ?_
    refine V_bipush hC (-2) dX9_segmentSize_9 (by decide) ?_
    refine V_callV hC (wr := []) 1 [.int (-2)] [] (ct_X9_fails l E h0 h1 h2 h3 a_now a_past n_saved a_errors n_hash (-2) _ hw) wd_634 wd_40 wd_631 wd_633 wd_12 (by decide +kernel) rfl ⟨Nat.le_of_ble_eq_true rfl, Nat.le_of_ble_eq_true rfl⟩ [0, 1, 2, 3] [] rfl rfl rfl rfl (by decide) rfl rfl rfl (Nat.le_of_ble_eq_true rfl) ⟨Nat.le_of_ble_eq_true rfl, Nat.le_of_ble_eq_true rfl⟩ dX9_segmentSize_11 (fun v ws' hp => ?_)
    obtain ⟨r7, g8, rfl, rfl, hw⟩ := hp
    refine V_cast [(0, .ref h0), (1, .int p1), (2, .int p2)] [.int r7] [(h0, .inr (8, [.ref h1, .ref h2, .int n_saved, .ref h3, .long n_hash])), (h1, .inl (E.2.1, 404, .inl a_now)), (h2, .inl (E.2.1, 1212, .inl a_past)), (h3, .inl (E.2.1, 9, .inl g8))] [0, 1, 2] [0, 1, 2, 3] rfl rfl rfl rfl ?_
    refine V_goto hC 46 (by decide) dX9_segmentSize_14 ?_
    exact V_iret hC hr ⟨r7, g8, rfl, rfl, hw⟩ dX9_segmentSize_46
abbrev po_X9_halfOpen (E : EN) (h0 : Nat) (h1 : Nat) (h2 : Nat) (h3 : Nat) (a_now : Nat → Int32) (a_past : Nat → Int32) (n_saved : Int32) (a_errors : Nat → Int32) (n_hash : Int64) (K : Int32 → Prop) : Option Value → va_W → Prop := fun v ws' => ∃ (r0 : Int32), v = some (.int r0) ∧ ws' = [(h0, .inr (8, [.ref h1, .ref h2, .int n_saved, .ref h3, .long n_hash])), (h1, .inl (E.2.1, 404, .inl a_now)), (h2, .inl (E.2.1, 1212, .inl a_past)), (h3, .inl (E.2.1, 9, .inl a_errors))] ∧ K r0
def wp_X9_halfOpen (a_now : Nat → Int32) (a_past : Nat → Int32) (n_saved : Int32) (a_errors : Nat → Int32) (n_hash : Int64) (K : Int32 → Prop) : Prop := K (a_now 3)
set_option maxRecDepth 100000 in
set_option maxHeartbeats 4000000 in
theorem ct_X9_halfOpen (l : Launch) (E : EN) (h0 : Nat) (h1 : Nat) (h2 : Nat) (h3 : Nat) (a_now : Nat → Int32) (a_past : Nat → Int32) (n_saved : Int32) (a_errors : Nat → Int32) (n_hash : Int64) (K : Int32 → Prop) (hw : wp_X9_halfOpen a_now a_past n_saved a_errors n_hash K) : Con l yX9_halfOpen cX9_halfOpen 1 (some .int) { frames := 0, cells := 0, slots := 0, locals := 0 } E [.ref h0] [(h0, .inr (8, [.ref h1, .ref h2, .int n_saved, .ref h3, .long n_hash])), (h1, .inl (E.2.1, 404, .inl a_now)), (h2, .inl (E.2.1, 1212, .inl a_past)), (h3, .inl (E.2.1, 9, .inl a_errors))] (po_X9_halfOpen E h0 h1 h2 h3 a_now a_past n_saved a_errors n_hash K) := by
  refine Con.mk (by decide +kernel) (Nat.le_of_ble_eq_true rfl) ?_
  intro p e s m below meth c A hC hr hin
  have hC : Cx p s m _ meth c E A cX9_halfOpen 1 "CookieServerModel" := hC
  rw [wp_X9_halfOpen] at hw
  refine V_cast [(0, .ref h0)] [] [(h0, .inr (8, [.ref h1, .ref h2, .int n_saved, .ref h3, .long n_hash])), (h1, .inl (E.2.1, 404, .inl a_now)), (h2, .inl (E.2.1, 1212, .inl a_past)), (h3, .inl (E.2.1, 9, .inl a_errors))] [0] [0, 1, 2, 3] rfl rfl rfl rfl ?_
  refine V_aload_n hC 0 rfl rfl dX9_halfOpen_0 ?_
  refine V_get hC inX9 rfl 0 (by decide) wd_611 0 rfl rfl dX9_halfOpen_1 ?_
  refine V_iconst hC 3 dX9_halfOpen_4 (by decide) ?_
  refine V_iald hC 3 (by decide) 1 rfl (by unfold vp_in; decide) dX9_halfOpen_5 ?_
  exact V_iret hC hr ⟨a_now 3, rfl, rfl, hw⟩ dX9_halfOpen_6
abbrev po_X9_entryAge (E : EN) (h0 : Nat) (h1 : Nat) (h2 : Nat) (h3 : Nat) (a_now : Nat → Int32) (a_past : Nat → Int32) (n_saved : Int32) (n_hash : Int64) (K : Int32 → (Nat → Int32) → Prop) : Option Value → va_W → Prop := fun v ws' => ∃ (r0 : Int32) (a_errors : Nat → Int32), v = some (.int r0) ∧ ws' = [(h0, .inr (8, [.ref h1, .ref h2, .int n_saved, .ref h3, .long n_hash])), (h1, .inl (E.2.1, 404, .inl a_now)), (h2, .inl (E.2.1, 1212, .inl a_past)), (h3, .inl (E.2.1, 9, .inl a_errors))] ∧ K r0 a_errors
def wp_X9_entryAge (a_now : Nat → Int32) (a_past : Nat → Int32) (n_saved : Int32) (a_errors : Nat → Int32) (n_hash : Int64) (p1 : Int32) (p2 : Int32) (K : Int32 → (Nat → Int32) → Prop) : Prop := (wp_X9_isPort p1 p2 (fun (r1 : Int32) => ((¬ r1 = 0 → (wp_X9_entryOf a_now a_past n_saved a_errors n_hash p1 p2 (fun (r3 : Int32) => ((¬ r3 = (-1) → (vp_in ((24 + (4 * r3)) + 3) 404 ∧ K ((a_now 0) - (a_now (Int32.toNatClampNeg ((24 + (4 * r3)) + 3)))) a_errors)) ∧ (r3 = (-1) → K (-1) a_errors))))) ∧ (r1 = 0 → (wp_X9_fails a_now a_past n_saved a_errors n_hash (-2) (fun (r5 : Int32) (g6 : Nat → Int32) => K r5 g6))))))
set_option maxRecDepth 100000 in
set_option maxHeartbeats 4000000 in
theorem ct_X9_entryAge (l : Launch) (E : EN) (h0 : Nat) (h1 : Nat) (h2 : Nat) (h3 : Nat) (a_now : Nat → Int32) (a_past : Nat → Int32) (n_saved : Int32) (a_errors : Nat → Int32) (n_hash : Int64) (p1 : Int32) (p2 : Int32) (K : Int32 → (Nat → Int32) → Prop) (hw : wp_X9_entryAge a_now a_past n_saved a_errors n_hash p1 p2 K) : Con l yX9_entryAge cX9_entryAge 4 (some .int) { frames := 2, cells := 0, slots := 0, locals := 43 } E [.ref h0, .int p1, .int p2] [(h0, .inr (8, [.ref h1, .ref h2, .int n_saved, .ref h3, .long n_hash])), (h1, .inl (E.2.1, 404, .inl a_now)), (h2, .inl (E.2.1, 1212, .inl a_past)), (h3, .inl (E.2.1, 9, .inl a_errors))] (po_X9_entryAge E h0 h1 h2 h3 a_now a_past n_saved n_hash K) := by
  refine Con.mk (by decide +kernel) (Nat.le_of_ble_eq_true rfl) ?_
  intro p e s m below meth c A hC hr hin
  have hC : Cx p s m _ meth c E A cX9_entryAge 4 "CookieServerModel" := hC
  rw [wp_X9_entryAge] at hw
  refine V_cast [(0, .ref h0), (1, .int p1), (2, .int p2)] [] [(h0, .inr (8, [.ref h1, .ref h2, .int n_saved, .ref h3, .long n_hash])), (h1, .inl (E.2.1, 404, .inl a_now)), (h2, .inl (E.2.1, 1212, .inl a_past)), (h3, .inl (E.2.1, 9, .inl a_errors))] [0, 1, 2] [0, 1, 2, 3] rfl rfl rfl rfl ?_
  refine V_iload_n hC 1 rfl rfl dX9_entryAge_0 ?_
  refine V_iload_n hC 2 rfl rfl dX9_entryAge_1 ?_
  refine V_callS hC (wr := [(h0, .inr (8, [.ref h1, .ref h2, .int n_saved, .ref h3, .long n_hash])), (h1, .inl (E.2.1, 404, .inl a_now)), (h2, .inl (E.2.1, 1212, .inl a_past)), (h3, .inl (E.2.1, 9, .inl a_errors))]) 2 [.int p1, .int p2] [] (ct_X9_isPort l E p1 p2 _ hw) wd_677 wd_40 wd_675 wd_676 (by decide +kernel) rfl ⟨Nat.le_of_ble_eq_true rfl, Nat.le_of_ble_eq_true rfl⟩ [] [0, 1, 2, 3] rfl rfl rfl rfl (by decide) rfl (Nat.le_of_ble_eq_true rfl) ⟨Nat.le_of_ble_eq_true rfl, Nat.le_of_ble_eq_true rfl⟩ dX9_entryAge_2 (fun v ws' hp => ?_)
  obtain ⟨r1, rfl, rfl, hw⟩ := hp
  refine V_cast [(0, .ref h0), (1, .int p1), (2, .int p2)] [.int r1] [(h0, .inr (8, [.ref h1, .ref h2, .int n_saved, .ref h3, .long n_hash])), (h1, .inl (E.2.1, 404, .inl a_now)), (h2, .inl (E.2.1, 1212, .inl a_past)), (h3, .inl (E.2.1, 9, .inl a_errors))] [0, 1, 2] [0, 1, 2, 3] rfl rfl rfl rfl ?_
  refine V_if_ne hC 15 (by decide) dX9_entryAge_5 (fun c2 => ?_) (fun c2 => ?_)
  · have hw := hw.1 c2
    refine V_aload_n hC 0 rfl rfl dX9_entryAge_15 ?_
    refine V_iload_n hC 1 rfl rfl dX9_entryAge_16 ?_
    refine V_iload_n hC 2 rfl rfl dX9_entryAge_17 ?_
    refine V_callV hC (wr := []) 2 [.int p1, .int p2] [] (ct_X9_entryOf l E h0 h1 h2 h3 a_now a_past n_saved a_errors n_hash p1 p2 _ hw) wd_704 wd_40 wd_701 wd_703 wd_20 (by decide +kernel) rfl ⟨Nat.le_of_ble_eq_true rfl, Nat.le_of_ble_eq_true rfl⟩ [0, 1, 2, 3] [] rfl rfl rfl rfl (by decide) rfl rfl rfl (Nat.le_of_ble_eq_true rfl) ⟨Nat.le_of_ble_eq_true rfl, Nat.le_of_ble_eq_true rfl⟩ dX9_entryAge_18 (fun v ws' hp => ?_)
    obtain ⟨r3, rfl, rfl, hw⟩ := hp
    refine V_cast [(0, .ref h0), (1, .int p1), (2, .int p2)] [.int r3] [(h0, .inr (8, [.ref h1, .ref h2, .int n_saved, .ref h3, .long n_hash])), (h1, .inl (E.2.1, 404, .inl a_now)), (h2, .inl (E.2.1, 1212, .inl a_past)), (h3, .inl (E.2.1, 9, .inl a_errors))] [0, 1, 2] [0, 1, 2, 3] rfl rfl rfl rfl ?_
    refine V_istore_n hC [(3, .int r3), (0, .ref h0), (1, .int p1), (2, .int p2)] rfl (by decide) rfl dX9_entryAge_21 ?_
    refine V_iload_n hC 0 rfl rfl dX9_entryAge_22 ?_
    refine V_iconst hC (-1) dX9_entryAge_23 (by decide) ?_
    refine V_icmp_ne hC 31 (by decide) dX9_entryAge_24 (fun c4 => ?_) (fun c4 => ?_)
    · have hw := hw.1 c4
      refine V_aload_n hC 1 rfl rfl dX9_entryAge_31 ?_
      refine V_get hC inX9 rfl 0 (by decide) wd_611 0 rfl rfl dX9_entryAge_32 ?_
      refine V_iconst hC 0 dX9_entryAge_35 (by decide) ?_
      refine V_iald hC 0 (by decide) 1 rfl (by unfold vp_in; decide) dX9_entryAge_36 ?_
      refine V_aload_n hC 1 rfl rfl dX9_entryAge_37 ?_
      refine V_get hC inX9 rfl 0 (by decide) wd_611 0 rfl rfl dX9_entryAge_38 ?_
      refine V_bipush hC 24 dX9_entryAge_41 (by decide) ?_
      refine V_iconst hC 4 dX9_entryAge_43 (by decide) ?_
      refine V_iload_n hC 0 rfl rfl dX9_entryAge_44 ?_
      refine V_imul hC dX9_entryAge_45 ?_
      refine V_iadd hC dX9_entryAge_46 ?_
      refine V_iconst hC 3 dX9_entryAge_47 (by decide) ?_
      refine V_iadd hC dX9_entryAge_48 ?_
      refine V_iald hC _ rfl 1 rfl hw.1 dX9_entryAge_49 ?_
      have hw := hw.2
      refine V_isub hC dX9_entryAge_50 ?_
      exact V_iret hC hr ⟨(a_now 0) - (a_now (Int32.toNatClampNeg ((24 + (4 * r3)) + 3))), a_errors, rfl, rfl, hw⟩ dX9_entryAge_51
    · have hw := hw.2 c4
      refine V_iconst hC (-1) dX9_entryAge_27 (by decide) ?_
      refine V_goto hC 51 (by decide) dX9_entryAge_28 ?_
      exact V_iret hC hr ⟨(-1), a_errors, rfl, rfl, hw⟩ dX9_entryAge_51
  · have hw := hw.2 c2
    refine V_aload_n hC 0 rfl rfl dX9_entryAge_8 ?_
    refine V_bipush hC (-2) dX9_entryAge_9 (by decide) ?_
    refine V_callV hC (wr := []) 1 [.int (-2)] [] (ct_X9_fails l E h0 h1 h2 h3 a_now a_past n_saved a_errors n_hash (-2) _ hw) wd_634 wd_40 wd_631 wd_633 wd_12 (by decide +kernel) rfl ⟨Nat.le_of_ble_eq_true rfl, Nat.le_of_ble_eq_true rfl⟩ [0, 1, 2, 3] [] rfl rfl rfl rfl (by decide) rfl rfl rfl (Nat.le_of_ble_eq_true rfl) ⟨Nat.le_of_ble_eq_true rfl, Nat.le_of_ble_eq_true rfl⟩ dX9_entryAge_11 (fun v ws' hp => ?_)
    obtain ⟨r5, g6, rfl, rfl, hw⟩ := hp
    refine V_cast [(0, .ref h0), (1, .int p1), (2, .int p2)] [.int r5] [(h0, .inr (8, [.ref h1, .ref h2, .int n_saved, .ref h3, .long n_hash])), (h1, .inl (E.2.1, 404, .inl a_now)), (h2, .inl (E.2.1, 1212, .inl a_past)), (h3, .inl (E.2.1, 9, .inl g6))] [0, 1, 2] [0, 1, 2, 3] rfl rfl rfl rfl ?_
    exact V_iret hC hr ⟨r5, g6, rfl, rfl, hw⟩ dX9_entryAge_14
abbrev po_X9_remembered (E : EN) (h0 : Nat) (h1 : Nat) (h2 : Nat) (h3 : Nat) (a_now : Nat → Int32) (a_past : Nat → Int32) (n_saved : Int32) (a_errors : Nat → Int32) (n_hash : Int64) (K : Int32 → Prop) : Option Value → va_W → Prop := fun v ws' => ∃ (r0 : Int32), v = some (.int r0) ∧ ws' = [(h0, .inr (8, [.ref h1, .ref h2, .int n_saved, .ref h3, .long n_hash])), (h1, .inl (E.2.1, 404, .inl a_now)), (h2, .inl (E.2.1, 1212, .inl a_past)), (h3, .inl (E.2.1, 9, .inl a_errors))] ∧ K r0
def wp_X9_remembered (a_now : Nat → Int32) (a_past : Nat → Int32) (n_saved : Int32) (a_errors : Nat → Int32) (n_hash : Int64) (K : Int32 → Prop) : Prop := K (a_now 4)
set_option maxRecDepth 100000 in
set_option maxHeartbeats 4000000 in
theorem ct_X9_remembered (l : Launch) (E : EN) (h0 : Nat) (h1 : Nat) (h2 : Nat) (h3 : Nat) (a_now : Nat → Int32) (a_past : Nat → Int32) (n_saved : Int32) (a_errors : Nat → Int32) (n_hash : Int64) (K : Int32 → Prop) (hw : wp_X9_remembered a_now a_past n_saved a_errors n_hash K) : Con l yX9_remembered cX9_remembered 1 (some .int) { frames := 0, cells := 0, slots := 0, locals := 0 } E [.ref h0] [(h0, .inr (8, [.ref h1, .ref h2, .int n_saved, .ref h3, .long n_hash])), (h1, .inl (E.2.1, 404, .inl a_now)), (h2, .inl (E.2.1, 1212, .inl a_past)), (h3, .inl (E.2.1, 9, .inl a_errors))] (po_X9_remembered E h0 h1 h2 h3 a_now a_past n_saved a_errors n_hash K) := by
  refine Con.mk (by decide +kernel) (Nat.le_of_ble_eq_true rfl) ?_
  intro p e s m below meth c A hC hr hin
  have hC : Cx p s m _ meth c E A cX9_remembered 1 "CookieServerModel" := hC
  rw [wp_X9_remembered] at hw
  refine V_cast [(0, .ref h0)] [] [(h0, .inr (8, [.ref h1, .ref h2, .int n_saved, .ref h3, .long n_hash])), (h1, .inl (E.2.1, 404, .inl a_now)), (h2, .inl (E.2.1, 1212, .inl a_past)), (h3, .inl (E.2.1, 9, .inl a_errors))] [0] [0, 1, 2, 3] rfl rfl rfl rfl ?_
  refine V_aload_n hC 0 rfl rfl dX9_remembered_0 ?_
  refine V_get hC inX9 rfl 0 (by decide) wd_611 0 rfl rfl dX9_remembered_1 ?_
  refine V_iconst hC 4 dX9_remembered_4 (by decide) ?_
  refine V_iald hC 4 (by decide) 1 rfl (by unfold vp_in; decide) dX9_remembered_5 ?_
  exact V_iret hC hr ⟨a_now 4, rfl, rfl, hw⟩ dX9_remembered_6
abbrev po_X9_epoch (E : EN) (h0 : Nat) (h1 : Nat) (h2 : Nat) (h3 : Nat) (a_now : Nat → Int32) (a_past : Nat → Int32) (n_saved : Int32) (a_errors : Nat → Int32) (n_hash : Int64) (K : Int32 → Prop) : Option Value → va_W → Prop := fun v ws' => ∃ (r0 : Int32), v = some (.int r0) ∧ ws' = [(h0, .inr (8, [.ref h1, .ref h2, .int n_saved, .ref h3, .long n_hash])), (h1, .inl (E.2.1, 404, .inl a_now)), (h2, .inl (E.2.1, 1212, .inl a_past)), (h3, .inl (E.2.1, 9, .inl a_errors))] ∧ K r0
def wp_X9_epoch (a_now : Nat → Int32) (a_past : Nat → Int32) (n_saved : Int32) (a_errors : Nat → Int32) (n_hash : Int64) (K : Int32 → Prop) : Prop := (wp_X9_epochNow a_now a_past n_saved a_errors n_hash (fun (r1 : Int32) => K r1))
set_option maxRecDepth 100000 in
set_option maxHeartbeats 4000000 in
theorem ct_X9_epoch (l : Launch) (E : EN) (h0 : Nat) (h1 : Nat) (h2 : Nat) (h3 : Nat) (a_now : Nat → Int32) (a_past : Nat → Int32) (n_saved : Int32) (a_errors : Nat → Int32) (n_hash : Int64) (K : Int32 → Prop) (hw : wp_X9_epoch a_now a_past n_saved a_errors n_hash K) : Con l yX9_epoch cX9_epoch 1 (some .int) { frames := 1, cells := 0, slots := 0, locals := 20 } E [.ref h0] [(h0, .inr (8, [.ref h1, .ref h2, .int n_saved, .ref h3, .long n_hash])), (h1, .inl (E.2.1, 404, .inl a_now)), (h2, .inl (E.2.1, 1212, .inl a_past)), (h3, .inl (E.2.1, 9, .inl a_errors))] (po_X9_epoch E h0 h1 h2 h3 a_now a_past n_saved a_errors n_hash K) := by
  refine Con.mk (by decide +kernel) (Nat.le_of_ble_eq_true rfl) ?_
  intro p e s m below meth c A hC hr hin
  have hC : Cx p s m _ meth c E A cX9_epoch 1 "CookieServerModel" := hC
  rw [wp_X9_epoch] at hw
  refine V_cast [(0, .ref h0)] [] [(h0, .inr (8, [.ref h1, .ref h2, .int n_saved, .ref h3, .long n_hash])), (h1, .inl (E.2.1, 404, .inl a_now)), (h2, .inl (E.2.1, 1212, .inl a_past)), (h3, .inl (E.2.1, 9, .inl a_errors))] [0] [0, 1, 2, 3] rfl rfl rfl rfl ?_
  refine V_aload_n hC 0 rfl rfl dX9_epoch_0 ?_
  refine V_callV hC (wr := []) 0 [] [] (ct_X9_epochNow l E h0 h1 h2 h3 a_now a_past n_saved a_errors n_hash _ hw) wd_661 wd_40 wd_658 wd_660 wd_17 (by decide +kernel) rfl ⟨Nat.le_of_ble_eq_true rfl, Nat.le_of_ble_eq_true rfl⟩ [0, 1, 2, 3] [] rfl rfl rfl rfl (by decide) rfl rfl rfl (Nat.le_of_ble_eq_true rfl) ⟨Nat.le_of_ble_eq_true rfl, Nat.le_of_ble_eq_true rfl⟩ dX9_epoch_1 (fun v ws' hp => ?_)
  obtain ⟨r1, rfl, rfl, hw⟩ := hp
  refine V_cast [(0, .ref h0)] [.int r1] [(h0, .inr (8, [.ref h1, .ref h2, .int n_saved, .ref h3, .long n_hash])), (h1, .inl (E.2.1, 404, .inl a_now)), (h2, .inl (E.2.1, 1212, .inl a_past)), (h3, .inl (E.2.1, 9, .inl a_errors))] [0] [0, 1, 2, 3] rfl rfl rfl rfl ?_
  exact V_iret hC hr ⟨r1, rfl, rfl, hw⟩ dX9_epoch_4
abbrev po_X9_load (E : EN) (h0 : Nat) (h1 : Nat) (h2 : Nat) (h3 : Nat) (a_now : Nat → Int32) (a_past : Nat → Int32) (n_saved : Int32) (a_errors : Nat → Int32) (n_hash : Int64) (K : Int32 → Prop) : Option Value → va_W → Prop := fun v ws' => ∃ (r0 : Int32), v = some (.int r0) ∧ ws' = [(h0, .inr (8, [.ref h1, .ref h2, .int n_saved, .ref h3, .long n_hash])), (h1, .inl (E.2.1, 404, .inl a_now)), (h2, .inl (E.2.1, 1212, .inl a_past)), (h3, .inl (E.2.1, 9, .inl a_errors))] ∧ K r0
def wp_X9_load (a_now : Nat → Int32) (a_past : Nat → Int32) (n_saved : Int32) (a_errors : Nat → Int32) (n_hash : Int64) (K : Int32 → Prop) : Prop := (wp_X9_loadNow a_now a_past n_saved a_errors n_hash (fun (r1 : Int32) => K r1))
set_option maxRecDepth 100000 in
set_option maxHeartbeats 4000000 in
theorem ct_X9_load (l : Launch) (E : EN) (h0 : Nat) (h1 : Nat) (h2 : Nat) (h3 : Nat) (a_now : Nat → Int32) (a_past : Nat → Int32) (n_saved : Int32) (a_errors : Nat → Int32) (n_hash : Int64) (K : Int32 → Prop) (hw : wp_X9_load a_now a_past n_saved a_errors n_hash K) : Con l yX9_load cX9_load 1 (some .int) { frames := 1, cells := 0, slots := 0, locals := 22 } E [.ref h0] [(h0, .inr (8, [.ref h1, .ref h2, .int n_saved, .ref h3, .long n_hash])), (h1, .inl (E.2.1, 404, .inl a_now)), (h2, .inl (E.2.1, 1212, .inl a_past)), (h3, .inl (E.2.1, 9, .inl a_errors))] (po_X9_load E h0 h1 h2 h3 a_now a_past n_saved a_errors n_hash K) := by
  refine Con.mk (by decide +kernel) (Nat.le_of_ble_eq_true rfl) ?_
  intro p e s m below meth c A hC hr hin
  have hC : Cx p s m _ meth c E A cX9_load 1 "CookieServerModel" := hC
  rw [wp_X9_load] at hw
  refine V_cast [(0, .ref h0)] [] [(h0, .inr (8, [.ref h1, .ref h2, .int n_saved, .ref h3, .long n_hash])), (h1, .inl (E.2.1, 404, .inl a_now)), (h2, .inl (E.2.1, 1212, .inl a_past)), (h3, .inl (E.2.1, 9, .inl a_errors))] [0] [0, 1, 2, 3] rfl rfl rfl rfl ?_
  refine V_aload_n hC 0 rfl rfl dX9_load_0 ?_
  refine V_callV hC (wr := []) 0 [] [] (ct_X9_loadNow l E h0 h1 h2 h3 a_now a_past n_saved a_errors n_hash _ hw) wd_708 wd_40 wd_705 wd_707 wd_21 (by decide +kernel) rfl ⟨Nat.le_of_ble_eq_true rfl, Nat.le_of_ble_eq_true rfl⟩ [0, 1, 2, 3] [] rfl rfl rfl rfl (by decide) rfl rfl rfl (Nat.le_of_ble_eq_true rfl) ⟨Nat.le_of_ble_eq_true rfl, Nat.le_of_ble_eq_true rfl⟩ dX9_load_1 (fun v ws' hp => ?_)
  obtain ⟨r1, rfl, rfl, hw⟩ := hp
  refine V_cast [(0, .ref h0)] [.int r1] [(h0, .inr (8, [.ref h1, .ref h2, .int n_saved, .ref h3, .long n_hash])), (h1, .inl (E.2.1, 404, .inl a_now)), (h2, .inl (E.2.1, 1212, .inl a_past)), (h3, .inl (E.2.1, 9, .inl a_errors))] [0] [0, 1, 2, 3] rfl rfl rfl rfl ?_
  exact V_iret hC hr ⟨r1, rfl, rfl, hw⟩ dX9_load_4
abbrev po_X9_difficulty (E : EN) (h0 : Nat) (h1 : Nat) (h2 : Nat) (h3 : Nat) (a_now : Nat → Int32) (a_past : Nat → Int32) (n_saved : Int32) (a_errors : Nat → Int32) (n_hash : Int64) (K : Int32 → Prop) : Option Value → va_W → Prop := fun v ws' => ∃ (r0 : Int32), v = some (.int r0) ∧ ws' = [(h0, .inr (8, [.ref h1, .ref h2, .int n_saved, .ref h3, .long n_hash])), (h1, .inl (E.2.1, 404, .inl a_now)), (h2, .inl (E.2.1, 1212, .inl a_past)), (h3, .inl (E.2.1, 9, .inl a_errors))] ∧ K r0
def wp_X9_difficulty (a_now : Nat → Int32) (a_past : Nat → Int32) (n_saved : Int32) (a_errors : Nat → Int32) (n_hash : Int64) (K : Int32 → Prop) : Prop := (wp_X9_difficultyNow a_now a_past n_saved a_errors n_hash (fun (r1 : Int32) => K r1))
set_option maxRecDepth 100000 in
set_option maxHeartbeats 4000000 in
theorem ct_X9_difficulty (l : Launch) (E : EN) (h0 : Nat) (h1 : Nat) (h2 : Nat) (h3 : Nat) (a_now : Nat → Int32) (a_past : Nat → Int32) (n_saved : Int32) (a_errors : Nat → Int32) (n_hash : Int64) (K : Int32 → Prop) (hw : wp_X9_difficulty a_now a_past n_saved a_errors n_hash K) : Con l yX9_difficulty cX9_difficulty 1 (some .int) { frames := 2, cells := 0, slots := 0, locals := 43 } E [.ref h0] [(h0, .inr (8, [.ref h1, .ref h2, .int n_saved, .ref h3, .long n_hash])), (h1, .inl (E.2.1, 404, .inl a_now)), (h2, .inl (E.2.1, 1212, .inl a_past)), (h3, .inl (E.2.1, 9, .inl a_errors))] (po_X9_difficulty E h0 h1 h2 h3 a_now a_past n_saved a_errors n_hash K) := by
  refine Con.mk (by decide +kernel) (Nat.le_of_ble_eq_true rfl) ?_
  intro p e s m below meth c A hC hr hin
  have hC : Cx p s m _ meth c E A cX9_difficulty 1 "CookieServerModel" := hC
  rw [wp_X9_difficulty] at hw
  refine V_cast [(0, .ref h0)] [] [(h0, .inr (8, [.ref h1, .ref h2, .int n_saved, .ref h3, .long n_hash])), (h1, .inl (E.2.1, 404, .inl a_now)), (h2, .inl (E.2.1, 1212, .inl a_past)), (h3, .inl (E.2.1, 9, .inl a_errors))] [0] [0, 1, 2, 3] rfl rfl rfl rfl ?_
  refine V_aload_n hC 0 rfl rfl dX9_difficulty_0 ?_
  refine V_callV hC (wr := []) 0 [] [] (ct_X9_difficultyNow l E h0 h1 h2 h3 a_now a_past n_saved a_errors n_hash _ hw) wd_732 wd_40 wd_729 wd_731 wd_24 (by decide +kernel) rfl ⟨Nat.le_of_ble_eq_true rfl, Nat.le_of_ble_eq_true rfl⟩ [0, 1, 2, 3] [] rfl rfl rfl rfl (by decide) rfl rfl rfl (Nat.le_of_ble_eq_true rfl) ⟨Nat.le_of_ble_eq_true rfl, Nat.le_of_ble_eq_true rfl⟩ dX9_difficulty_1 (fun v ws' hp => ?_)
  obtain ⟨r1, rfl, rfl, hw⟩ := hp
  refine V_cast [(0, .ref h0)] [.int r1] [(h0, .inr (8, [.ref h1, .ref h2, .int n_saved, .ref h3, .long n_hash])), (h1, .inl (E.2.1, 404, .inl a_now)), (h2, .inl (E.2.1, 1212, .inl a_past)), (h3, .inl (E.2.1, 9, .inl a_errors))] [0] [0, 1, 2, 3] rfl rfl rfl rfl ?_
  exact V_iret hC hr ⟨r1, rfl, rfl, hw⟩ dX9_difficulty_4
abbrev po_X9_solve (E : EN) (h0 : Nat) (h1 : Nat) (h2 : Nat) (h3 : Nat) (a_now : Nat → Int32) (a_past : Nat → Int32) (n_saved : Int32) (n_hash : Int64) (K : Int32 → (Nat → Int32) → Prop) : Option Value → va_W → Prop := fun v ws' => ∃ (r0 : Int32) (a_errors : Nat → Int32), v = some (.int r0) ∧ ws' = [(h0, .inr (8, [.ref h1, .ref h2, .int n_saved, .ref h3, .long n_hash])), (h1, .inl (E.2.1, 404, .inl a_now)), (h2, .inl (E.2.1, 1212, .inl a_past)), (h3, .inl (E.2.1, 9, .inl a_errors))] ∧ K r0 a_errors
def wpl_X9_solve_38 (a_now : Nat → Int32) (a_past : Nat → Int32) (n_saved : Int32) (n_hash : Int64) (K : Int32 → (Nat → Int32) → Prop) : Nat → Int32 → Int32 → Int32 → Int32 → (Nat → Int32) → Prop
  | 0, _, _, _, _, _ => False
  | n9 + 1, x1, x2, x3, x4, a_errors => ((9999 < x4 → ((9999 < x4 → K (-1) a_errors) ∧ (¬ (9999 < x4) → K x4 a_errors))) ∧ (¬ (9999 < x4) → (wp_X9_isSolution x1 x4 x2 (fun (r13 : Int32) => ((¬ r13 = 0 → ((9999 < x4 → K (-1) a_errors) ∧ (¬ (9999 < x4) → K x4 a_errors))) ∧ (r13 = 0 → wpl_X9_solve_38 a_now a_past n_saved n_hash K n9 x1 x2 x3 (x4 + 1) a_errors))))))
set_option maxRecDepth 100000 in
set_option maxHeartbeats 4000000 in
theorem bl_X9_solve_38 {p : Program} {l : Launch} {e : Env} {s : State} {m : MethodId} {args : Array Value} {below : List Frame} {meth : Method} {c : Code} {E : EN} {A : Nat → Prop} (hC : Cx p s m args meth c E A cX9_solve 5 "CookieServerModel") (hr : meth.sig.returnType = some .int) (h0 : Nat) (h1 : Nat) (h2 : Nat) (h3 : Nat) (a_now : Nat → Int32) (a_past : Nat → Int32) (n_saved : Int32) (n_hash : Int64) (K : Int32 → (Nat → Int32) → Prop) : ∀ (n8 : Nat) (x1 : Int32) (x2 : Int32) (x3 : Int32) (x4 : Int32) (a_errors : Nat → Int32), wpl_X9_solve_38 a_now a_past n_saved n_hash K n8 x1 x2 x3 x4 a_errors → V p l e { frames := 2, cells := 0, slots := 0, locals := 47 } s m args below meth c E A 5 0 0 (MQ below (QP E (po_X9_solve E h0 h1 h2 h3 a_now a_past n_saved n_hash K) A) args s 0 0 A) 38 [(0, .ref h0), (1, .int x1), (2, .int x2), (3, .int x3), (4, .int x4)] [] [(h0, .inr (8, [.ref h1, .ref h2, .int n_saved, .ref h3, .long n_hash])), (h1, .inl (E.2.1, 404, .inl a_now)), (h2, .inl (E.2.1, 1212, .inl a_past)), (h3, .inl (E.2.1, 9, .inl a_errors))] := by
  intro n8
  induction n8 with
  | zero => intro x1 x2 x3 x4 a_errors hw; rw [wpl_X9_solve_38] at hw; exact hw.elim
  | succ n9 ih =>
    intro x1 x2 x3 x4 a_errors hw
    rw [wpl_X9_solve_38] at hw
    refine V_iload hC 4 rfl dX9_solve_38 ?_
    refine V_sipush hC 9999 dX9_solve_40 (by decide) ?_
    refine V_icmp_gt hC 62 (by decide) dX9_solve_43 (fun c11 => ?_) (fun c11 => ?_)
    · have hw := hw.1 c11
      refine V_iload hC 4 rfl dX9_solve_62 ?_
      refine V_sipush hC 9999 dX9_solve_64 (by decide) ?_
      refine V_icmp_gt hC 75 (by decide) dX9_solve_67 (fun c12 => ?_) (fun c12 => ?_)
      · have hw := hw.1 c12
        refine V_iconst hC (-1) dX9_solve_75 (by decide) ?_
        exact V_iret hC hr ⟨(-1), a_errors, rfl, rfl, hw⟩ dX9_solve_76
      · have hw := hw.2 c12
        refine V_iload hC 4 rfl dX9_solve_70 ?_
        refine V_goto hC 76 (by decide) dX9_solve_72 ?_
        exact V_iret hC hr ⟨x4, a_errors, rfl, rfl, hw⟩ dX9_solve_76
    · have hw := hw.2 c11
      refine V_iload_n hC 1 rfl rfl dX9_solve_46 ?_
      refine V_iload hC 4 rfl dX9_solve_47 ?_
      refine V_iload_n hC 2 rfl rfl dX9_solve_49 ?_
      refine V_callS hC (wr := [(h0, .inr (8, [.ref h1, .ref h2, .int n_saved, .ref h3, .long n_hash])), (h1, .inl (E.2.1, 404, .inl a_now)), (h2, .inl (E.2.1, 1212, .inl a_past)), (h3, .inl (E.2.1, 9, .inl a_errors))]) 3 [.int x1, .int x4, .int x2] [] (ct_X9_isSolution l E x1 x4 x2 _ hw) wd_735 wd_40 wd_733 wd_734 (by decide +kernel) rfl ⟨Nat.le_of_ble_eq_true rfl, Nat.le_of_ble_eq_true rfl⟩ [] [0, 1, 2, 3] rfl rfl rfl rfl (by decide) rfl (Nat.le_of_ble_eq_true rfl) ⟨Nat.le_of_ble_eq_true rfl, Nat.le_of_ble_eq_true rfl⟩ dX9_solve_50 (fun v ws' hp => ?_)
      obtain ⟨r13, rfl, rfl, hw⟩ := hp
      refine V_cast [(0, .ref h0), (1, .int x1), (2, .int x2), (3, .int x3), (4, .int x4)] [.int r13] [(h0, .inr (8, [.ref h1, .ref h2, .int n_saved, .ref h3, .long n_hash])), (h1, .inl (E.2.1, 404, .inl a_now)), (h2, .inl (E.2.1, 1212, .inl a_past)), (h3, .inl (E.2.1, 9, .inl a_errors))] [0, 1, 2, 3, 4] [0, 1, 2, 3] rfl rfl rfl rfl ?_
      refine V_if_ne hC 62 (by decide) dX9_solve_53 (fun c14 => ?_) (fun c14 => ?_)
      · have hw := hw.1 c14
        refine V_iload hC 4 rfl dX9_solve_62 ?_
        refine V_sipush hC 9999 dX9_solve_64 (by decide) ?_
        refine V_icmp_gt hC 75 (by decide) dX9_solve_67 (fun c15 => ?_) (fun c15 => ?_)
        · have hw := hw.1 c15
          refine V_iconst hC (-1) dX9_solve_75 (by decide) ?_
          exact V_iret hC hr ⟨(-1), a_errors, rfl, rfl, hw⟩ dX9_solve_76
        · have hw := hw.2 c15
          refine V_iload hC 4 rfl dX9_solve_70 ?_
          refine V_goto hC 76 (by decide) dX9_solve_72 ?_
          exact V_iret hC hr ⟨x4, a_errors, rfl, rfl, hw⟩ dX9_solve_76
      · have hw := hw.2 c14
        refine V_iinc hC (x4 + 1) 4 [(4, .int (x4 + 1)), (0, .ref h0), (1, .int x1), (2, .int x2), (3, .int x3)] rfl (congrArg (fun z => x4 + z) (by decide : Int32.ofInt (1) = (1 : Int32))) (by decide) rfl dX9_solve_56 ?_
        refine V_goto hC 38 (by decide) dX9_solve_59 ?_
        refine V_cast [(0, .ref h0), (1, .int x1), (2, .int x2), (3, .int x3), (4, .int (x4 + 1))] [] [(h0, .inr (8, [.ref h1, .ref h2, .int n_saved, .ref h3, .long n_hash])), (h1, .inl (E.2.1, 404, .inl a_now)), (h2, .inl (E.2.1, 1212, .inl a_past)), (h3, .inl (E.2.1, 9, .inl a_errors))] [1, 2, 3, 4, 0] [0, 1, 2, 3] rfl rfl rfl rfl ?_
        exact ih x1 x2 x3 (x4 + 1) a_errors hw
def wp_X9_solve (a_now : Nat → Int32) (a_past : Nat → Int32) (n_saved : Int32) (a_errors : Nat → Int32) (n_hash : Int64) (p1 : Int32) (p2 : Int32) (p3 : Int32) (K : Int32 → (Nat → Int32) → Prop) : Prop := (wp_X9_isCookie p1 (fun (r1 : Int32) => ((r1 = 0 → (wp_X9_fails a_now a_past n_saved a_errors n_hash (-2) (fun (r3 : Int32) (g4 : Nat → Int32) => K r3 g4))) ∧ (¬ (r1 = 0) → (wp_X9_within p2 0 6 (fun (r5 : Int32) => ((r5 = 0 → (wp_X9_fails a_now a_past n_saved a_errors n_hash (-2) (fun (r7 : Int32) (g8 : Nat → Int32) => K r7 g8))) ∧ (¬ (r5 = 0) → (wp_X9_within p3 0 9999 (fun (r9 : Int32) => ((¬ r9 = 0 → (∃ n8 : Nat, wpl_X9_solve_38 a_now a_past n_saved n_hash K n8 p1 p2 p3 p3 a_errors)) ∧ (r9 = 0 → (wp_X9_fails a_now a_past n_saved a_errors n_hash (-2) (fun (r16 : Int32) (g17 : Nat → Int32) => K r16 g17))))))))))))))
set_option maxRecDepth 100000 in
set_option maxHeartbeats 4000000 in
theorem ct_X9_solve (l : Launch) (E : EN) (h0 : Nat) (h1 : Nat) (h2 : Nat) (h3 : Nat) (a_now : Nat → Int32) (a_past : Nat → Int32) (n_saved : Int32) (a_errors : Nat → Int32) (n_hash : Int64) (p1 : Int32) (p2 : Int32) (p3 : Int32) (K : Int32 → (Nat → Int32) → Prop) (hw : wp_X9_solve a_now a_past n_saved a_errors n_hash p1 p2 p3 K) : Con l yX9_solve cX9_solve 5 (some .int) { frames := 2, cells := 0, slots := 0, locals := 47 } E [.ref h0, .int p1, .int p2, .int p3] [(h0, .inr (8, [.ref h1, .ref h2, .int n_saved, .ref h3, .long n_hash])), (h1, .inl (E.2.1, 404, .inl a_now)), (h2, .inl (E.2.1, 1212, .inl a_past)), (h3, .inl (E.2.1, 9, .inl a_errors))] (po_X9_solve E h0 h1 h2 h3 a_now a_past n_saved n_hash K) := by
  refine Con.mk (by decide +kernel) (Nat.le_of_ble_eq_true rfl) ?_
  intro p e s m below meth c A hC hr hin
  have hC : Cx p s m _ meth c E A cX9_solve 5 "CookieServerModel" := hC
  rw [wp_X9_solve] at hw
  refine V_cast [(0, .ref h0), (1, .int p1), (2, .int p2), (3, .int p3)] [] [(h0, .inr (8, [.ref h1, .ref h2, .int n_saved, .ref h3, .long n_hash])), (h1, .inl (E.2.1, 404, .inl a_now)), (h2, .inl (E.2.1, 1212, .inl a_past)), (h3, .inl (E.2.1, 9, .inl a_errors))] [0, 1, 2, 3] [0, 1, 2, 3] rfl rfl rfl rfl ?_
  refine V_iload_n hC 1 rfl rfl dX9_solve_0 ?_
  refine V_callS hC (wr := [(h0, .inr (8, [.ref h1, .ref h2, .int n_saved, .ref h3, .long n_hash])), (h1, .inl (E.2.1, 404, .inl a_now)), (h2, .inl (E.2.1, 1212, .inl a_past)), (h3, .inl (E.2.1, 9, .inl a_errors))]) 1 [.int p1] [] (ct_X9_isCookie l E p1 _ hw) wd_715 wd_40 wd_713 wd_714 (by decide +kernel) rfl ⟨Nat.le_of_ble_eq_true rfl, Nat.le_of_ble_eq_true rfl⟩ [] [0, 1, 2, 3] rfl rfl rfl rfl (by decide) rfl (Nat.le_of_ble_eq_true rfl) ⟨Nat.le_of_ble_eq_true rfl, Nat.le_of_ble_eq_true rfl⟩ dX9_solve_1 (fun v ws' hp => ?_)
  obtain ⟨r1, rfl, rfl, hw⟩ := hp
  refine V_cast [(0, .ref h0), (1, .int p1), (2, .int p2), (3, .int p3)] [.int r1] [(h0, .inr (8, [.ref h1, .ref h2, .int n_saved, .ref h3, .long n_hash])), (h1, .inl (E.2.1, 404, .inl a_now)), (h2, .inl (E.2.1, 1212, .inl a_past)), (h3, .inl (E.2.1, 9, .inl a_errors))] [0, 1, 2, 3] [0, 1, 2, 3] rfl rfl rfl rfl ?_
  refine V_if_eq hC 28 (by decide) dX9_solve_4 (fun c2 => ?_) (fun c2 => ?_)
  · have hw := hw.1 c2
    refine V_aload_n hC 0 rfl rfl dX9_solve_28 ?_
    refine V_bipush hC (-2) dX9_solve_29 (by decide) ?_
    refine V_callV hC (wr := []) 1 [.int (-2)] [] (ct_X9_fails l E h0 h1 h2 h3 a_now a_past n_saved a_errors n_hash (-2) _ hw) wd_634 wd_40 wd_631 wd_633 wd_12 (by decide +kernel) rfl ⟨Nat.le_of_ble_eq_true rfl, Nat.le_of_ble_eq_true rfl⟩ [0, 1, 2, 3] [] rfl rfl rfl rfl (by decide) rfl rfl rfl (Nat.le_of_ble_eq_true rfl) ⟨Nat.le_of_ble_eq_true rfl, Nat.le_of_ble_eq_true rfl⟩ dX9_solve_31 (fun v ws' hp => ?_)
    obtain ⟨r3, g4, rfl, rfl, hw⟩ := hp
    refine V_cast [(0, .ref h0), (1, .int p1), (2, .int p2), (3, .int p3)] [.int r3] [(h0, .inr (8, [.ref h1, .ref h2, .int n_saved, .ref h3, .long n_hash])), (h1, .inl (E.2.1, 404, .inl a_now)), (h2, .inl (E.2.1, 1212, .inl a_past)), (h3, .inl (E.2.1, 9, .inl g4))] [0, 1, 2, 3] [0, 1, 2, 3] rfl rfl rfl rfl ?_
    exact V_iret hC hr ⟨r3, g4, rfl, rfl, hw⟩ dX9_solve_34
  · have hw := hw.2 c2
    refine V_iload_n hC 2 rfl rfl dX9_solve_7 ?_
    refine V_iconst hC 0 dX9_solve_8 (by decide) ?_
    refine V_bipush hC 6 dX9_solve_9 (by decide) ?_
    refine V_callS hC (wr := [(h0, .inr (8, [.ref h1, .ref h2, .int n_saved, .ref h3, .long n_hash])), (h1, .inl (E.2.1, 404, .inl a_now)), (h2, .inl (E.2.1, 1212, .inl a_past)), (h3, .inl (E.2.1, 9, .inl a_errors))]) 3 [.int p2, .int 0, .int 6] [] (ct_X9_within l E p2 0 6 _ hw) wd_641 wd_40 wd_639 wd_640 (by decide +kernel) rfl ⟨Nat.le_of_ble_eq_true rfl, Nat.le_of_ble_eq_true rfl⟩ [] [0, 1, 2, 3] rfl rfl rfl rfl (by decide) rfl (Nat.le_of_ble_eq_true rfl) ⟨Nat.le_of_ble_eq_true rfl, Nat.le_of_ble_eq_true rfl⟩ dX9_solve_11 (fun v ws' hp => ?_)
    obtain ⟨r5, rfl, rfl, hw⟩ := hp
    refine V_cast [(0, .ref h0), (1, .int p1), (2, .int p2), (3, .int p3)] [.int r5] [(h0, .inr (8, [.ref h1, .ref h2, .int n_saved, .ref h3, .long n_hash])), (h1, .inl (E.2.1, 404, .inl a_now)), (h2, .inl (E.2.1, 1212, .inl a_past)), (h3, .inl (E.2.1, 9, .inl a_errors))] [0, 1, 2, 3] [0, 1, 2, 3] rfl rfl rfl rfl ?_
    refine V_if_eq hC 28 (by decide) dX9_solve_14 (fun c6 => ?_) (fun c6 => ?_)
    · have hw := hw.1 c6
      refine V_aload_n hC 0 rfl rfl dX9_solve_28 ?_
      refine V_bipush hC (-2) dX9_solve_29 (by decide) ?_
      refine V_callV hC (wr := []) 1 [.int (-2)] [] (ct_X9_fails l E h0 h1 h2 h3 a_now a_past n_saved a_errors n_hash (-2) _ hw) wd_634 wd_40 wd_631 wd_633 wd_12 (by decide +kernel) rfl ⟨Nat.le_of_ble_eq_true rfl, Nat.le_of_ble_eq_true rfl⟩ [0, 1, 2, 3] [] rfl rfl rfl rfl (by decide) rfl rfl rfl (Nat.le_of_ble_eq_true rfl) ⟨Nat.le_of_ble_eq_true rfl, Nat.le_of_ble_eq_true rfl⟩ dX9_solve_31 (fun v ws' hp => ?_)
      obtain ⟨r7, g8, rfl, rfl, hw⟩ := hp
      refine V_cast [(0, .ref h0), (1, .int p1), (2, .int p2), (3, .int p3)] [.int r7] [(h0, .inr (8, [.ref h1, .ref h2, .int n_saved, .ref h3, .long n_hash])), (h1, .inl (E.2.1, 404, .inl a_now)), (h2, .inl (E.2.1, 1212, .inl a_past)), (h3, .inl (E.2.1, 9, .inl g8))] [0, 1, 2, 3] [0, 1, 2, 3] rfl rfl rfl rfl ?_
      exact V_iret hC hr ⟨r7, g8, rfl, rfl, hw⟩ dX9_solve_34
    · have hw := hw.2 c6
      refine V_iload_n hC 3 rfl rfl dX9_solve_17 ?_
      refine V_iconst hC 0 dX9_solve_18 (by decide) ?_
      refine V_sipush hC 9999 dX9_solve_19 (by decide) ?_
      refine V_callS hC (wr := [(h0, .inr (8, [.ref h1, .ref h2, .int n_saved, .ref h3, .long n_hash])), (h1, .inl (E.2.1, 404, .inl a_now)), (h2, .inl (E.2.1, 1212, .inl a_past)), (h3, .inl (E.2.1, 9, .inl a_errors))]) 3 [.int p3, .int 0, .int 9999] [] (ct_X9_within l E p3 0 9999 _ hw) wd_641 wd_40 wd_639 wd_640 (by decide +kernel) rfl ⟨Nat.le_of_ble_eq_true rfl, Nat.le_of_ble_eq_true rfl⟩ [] [0, 1, 2, 3] rfl rfl rfl rfl (by decide) rfl (Nat.le_of_ble_eq_true rfl) ⟨Nat.le_of_ble_eq_true rfl, Nat.le_of_ble_eq_true rfl⟩ dX9_solve_22 (fun v ws' hp => ?_)
      obtain ⟨r9, rfl, rfl, hw⟩ := hp
      refine V_cast [(0, .ref h0), (1, .int p1), (2, .int p2), (3, .int p3)] [.int r9] [(h0, .inr (8, [.ref h1, .ref h2, .int n_saved, .ref h3, .long n_hash])), (h1, .inl (E.2.1, 404, .inl a_now)), (h2, .inl (E.2.1, 1212, .inl a_past)), (h3, .inl (E.2.1, 9, .inl a_errors))] [0, 1, 2, 3] [0, 1, 2, 3] rfl rfl rfl rfl ?_
      refine V_if_ne hC 35 (by decide) dX9_solve_25 (fun c10 => ?_) (fun c10 => ?_)
      · have hw := hw.1 c10
        refine V_iload_n hC 3 rfl rfl dX9_solve_35 ?_
        refine V_istore hC [(4, .int p3), (0, .ref h0), (1, .int p1), (2, .int p2), (3, .int p3)] (by decide) rfl dX9_solve_36 ?_
        refine V_cast [(0, .ref h0), (1, .int p1), (2, .int p2), (3, .int p3), (4, .int p3)] [] [(h0, .inr (8, [.ref h1, .ref h2, .int n_saved, .ref h3, .long n_hash])), (h1, .inl (E.2.1, 404, .inl a_now)), (h2, .inl (E.2.1, 1212, .inl a_past)), (h3, .inl (E.2.1, 9, .inl a_errors))] [1, 2, 3, 4, 0] [0, 1, 2, 3] rfl rfl rfl rfl ?_
        obtain ⟨n8, hw⟩ := hw
        exact bl_X9_solve_38 hC hr h0 h1 h2 h3 a_now a_past n_saved n_hash K n8 p1 p2 p3 p3 a_errors hw
      · have hw := hw.2 c10
        refine V_aload_n hC 0 rfl rfl dX9_solve_28 ?_
        refine V_bipush hC (-2) dX9_solve_29 (by decide) ?_
        refine V_callV hC (wr := []) 1 [.int (-2)] [] (ct_X9_fails l E h0 h1 h2 h3 a_now a_past n_saved a_errors n_hash (-2) _ hw) wd_634 wd_40 wd_631 wd_633 wd_12 (by decide +kernel) rfl ⟨Nat.le_of_ble_eq_true rfl, Nat.le_of_ble_eq_true rfl⟩ [0, 1, 2, 3] [] rfl rfl rfl rfl (by decide) rfl rfl rfl (Nat.le_of_ble_eq_true rfl) ⟨Nat.le_of_ble_eq_true rfl, Nat.le_of_ble_eq_true rfl⟩ dX9_solve_31 (fun v ws' hp => ?_)
        obtain ⟨r16, g17, rfl, rfl, hw⟩ := hp
        refine V_cast [(0, .ref h0), (1, .int p1), (2, .int p2), (3, .int p3)] [.int r16] [(h0, .inr (8, [.ref h1, .ref h2, .int n_saved, .ref h3, .long n_hash])), (h1, .inl (E.2.1, 404, .inl a_now)), (h2, .inl (E.2.1, 1212, .inl a_past)), (h3, .inl (E.2.1, 9, .inl g17))] [0, 1, 2, 3] [0, 1, 2, 3] rfl rfl rfl rfl ?_
        exact V_iret hC hr ⟨r16, g17, rfl, rfl, hw⟩ dX9_solve_34
abbrev po_X9_cookieAge (E : EN) (h0 : Nat) (h1 : Nat) (h2 : Nat) (h3 : Nat) (a_now : Nat → Int32) (a_past : Nat → Int32) (n_saved : Int32) (n_hash : Int64) (K : Int32 → (Nat → Int32) → Prop) : Option Value → va_W → Prop := fun v ws' => ∃ (r0 : Int32) (a_errors : Nat → Int32), v = some (.int r0) ∧ ws' = [(h0, .inr (8, [.ref h1, .ref h2, .int n_saved, .ref h3, .long n_hash])), (h1, .inl (E.2.1, 404, .inl a_now)), (h2, .inl (E.2.1, 1212, .inl a_past)), (h3, .inl (E.2.1, 9, .inl a_errors))] ∧ K r0 a_errors
def wp_X9_cookieAge (a_now : Nat → Int32) (a_past : Nat → Int32) (n_saved : Int32) (a_errors : Nat → Int32) (n_hash : Int64) (p1 : Int32) (K : Int32 → (Nat → Int32) → Prop) : Prop := (wp_X9_isCookie p1 (fun (r1 : Int32) => ((r1 = 0 → (wp_X9_fails a_now a_past n_saved a_errors n_hash (-2) (fun (r3 : Int32) (g4 : Nat → Int32) => K r3 g4))) ∧ (¬ (r1 = 0) → (wp_X9_ageOf a_now a_past n_saved a_errors n_hash p1 (fun (r5 : Int32) => K r5 a_errors))))))
set_option maxRecDepth 100000 in
set_option maxHeartbeats 4000000 in
theorem ct_X9_cookieAge (l : Launch) (E : EN) (h0 : Nat) (h1 : Nat) (h2 : Nat) (h3 : Nat) (a_now : Nat → Int32) (a_past : Nat → Int32) (n_saved : Int32) (a_errors : Nat → Int32) (n_hash : Int64) (p1 : Int32) (K : Int32 → (Nat → Int32) → Prop) (hw : wp_X9_cookieAge a_now a_past n_saved a_errors n_hash p1 K) : Con l yX9_cookieAge cX9_cookieAge 2 (some .int) { frames := 2, cells := 0, slots := 0, locals := 42 } E [.ref h0, .int p1] [(h0, .inr (8, [.ref h1, .ref h2, .int n_saved, .ref h3, .long n_hash])), (h1, .inl (E.2.1, 404, .inl a_now)), (h2, .inl (E.2.1, 1212, .inl a_past)), (h3, .inl (E.2.1, 9, .inl a_errors))] (po_X9_cookieAge E h0 h1 h2 h3 a_now a_past n_saved n_hash K) := by
  refine Con.mk (by decide +kernel) (Nat.le_of_ble_eq_true rfl) ?_
  intro p e s m below meth c A hC hr hin
  have hC : Cx p s m _ meth c E A cX9_cookieAge 2 "CookieServerModel" := hC
  rw [wp_X9_cookieAge] at hw
  refine V_cast [(0, .ref h0), (1, .int p1)] [] [(h0, .inr (8, [.ref h1, .ref h2, .int n_saved, .ref h3, .long n_hash])), (h1, .inl (E.2.1, 404, .inl a_now)), (h2, .inl (E.2.1, 1212, .inl a_past)), (h3, .inl (E.2.1, 9, .inl a_errors))] [0, 1] [0, 1, 2, 3] rfl rfl rfl rfl ?_
  refine V_iload_n hC 1 rfl rfl dX9_cookieAge_0 ?_
  refine V_callS hC (wr := [(h0, .inr (8, [.ref h1, .ref h2, .int n_saved, .ref h3, .long n_hash])), (h1, .inl (E.2.1, 404, .inl a_now)), (h2, .inl (E.2.1, 1212, .inl a_past)), (h3, .inl (E.2.1, 9, .inl a_errors))]) 1 [.int p1] [] (ct_X9_isCookie l E p1 _ hw) wd_715 wd_40 wd_713 wd_714 (by decide +kernel) rfl ⟨Nat.le_of_ble_eq_true rfl, Nat.le_of_ble_eq_true rfl⟩ [] [0, 1, 2, 3] rfl rfl rfl rfl (by decide) rfl (Nat.le_of_ble_eq_true rfl) ⟨Nat.le_of_ble_eq_true rfl, Nat.le_of_ble_eq_true rfl⟩ dX9_cookieAge_1 (fun v ws' hp => ?_)
  obtain ⟨r1, rfl, rfl, hw⟩ := hp
  refine V_cast [(0, .ref h0), (1, .int p1)] [.int r1] [(h0, .inr (8, [.ref h1, .ref h2, .int n_saved, .ref h3, .long n_hash])), (h1, .inl (E.2.1, 404, .inl a_now)), (h2, .inl (E.2.1, 1212, .inl a_past)), (h3, .inl (E.2.1, 9, .inl a_errors))] [0, 1] [0, 1, 2, 3] rfl rfl rfl rfl ?_
  refine V_if_eq hC 15 (by decide) dX9_cookieAge_4 (fun c2 => ?_) (fun c2 => ?_)
  · have hw := hw.1 c2
    refine V_aload_n hC 0 rfl rfl dX9_cookieAge_15 ?_
    refine V_bipush hC (-2) dX9_cookieAge_16 (by decide) ?_
    refine V_callV hC (wr := []) 1 [.int (-2)] [] (ct_X9_fails l E h0 h1 h2 h3 a_now a_past n_saved a_errors n_hash (-2) _ hw) wd_634 wd_40 wd_631 wd_633 wd_12 (by decide +kernel) rfl ⟨Nat.le_of_ble_eq_true rfl, Nat.le_of_ble_eq_true rfl⟩ [0, 1, 2, 3] [] rfl rfl rfl rfl (by decide) rfl rfl rfl (Nat.le_of_ble_eq_true rfl) ⟨Nat.le_of_ble_eq_true rfl, Nat.le_of_ble_eq_true rfl⟩ dX9_cookieAge_18 (fun v ws' hp => ?_)
    obtain ⟨r3, g4, rfl, rfl, hw⟩ := hp
    refine V_cast [(0, .ref h0), (1, .int p1)] [.int r3] [(h0, .inr (8, [.ref h1, .ref h2, .int n_saved, .ref h3, .long n_hash])), (h1, .inl (E.2.1, 404, .inl a_now)), (h2, .inl (E.2.1, 1212, .inl a_past)), (h3, .inl (E.2.1, 9, .inl g4))] [0, 1] [0, 1, 2, 3] rfl rfl rfl rfl ?_
    exact V_iret hC hr ⟨r3, g4, rfl, rfl, hw⟩ dX9_cookieAge_21
  · have hw := hw.2 c2
    refine V_aload_n hC 0 rfl rfl dX9_cookieAge_7 ?_
    refine V_iload_n hC 1 rfl rfl dX9_cookieAge_8 ?_
    refine V_callV hC (wr := []) 1 [.int p1] [] (ct_X9_ageOf l E h0 h1 h2 h3 a_now a_past n_saved a_errors n_hash p1 _ hw) wd_657 wd_40 wd_654 wd_656 wd_16 (by decide +kernel) rfl ⟨Nat.le_of_ble_eq_true rfl, Nat.le_of_ble_eq_true rfl⟩ [0, 1, 2, 3] [] rfl rfl rfl rfl (by decide) rfl rfl rfl (Nat.le_of_ble_eq_true rfl) ⟨Nat.le_of_ble_eq_true rfl, Nat.le_of_ble_eq_true rfl⟩ dX9_cookieAge_9 (fun v ws' hp => ?_)
    obtain ⟨r5, rfl, rfl, hw⟩ := hp
    refine V_cast [(0, .ref h0), (1, .int p1)] [.int r5] [(h0, .inr (8, [.ref h1, .ref h2, .int n_saved, .ref h3, .long n_hash])), (h1, .inl (E.2.1, 404, .inl a_now)), (h2, .inl (E.2.1, 1212, .inl a_past)), (h3, .inl (E.2.1, 9, .inl a_errors))] [0, 1] [0, 1, 2, 3] rfl rfl rfl rfl ?_
    refine V_goto hC 21 (by decide) dX9_cookieAge_12 ?_
    exact V_iret hC hr ⟨r5, a_errors, rfl, rfl, hw⟩ dX9_cookieAge_21
abbrev po_X9_cookieSize (E : EN) (h0 : Nat) (h1 : Nat) (h2 : Nat) (h3 : Nat) (a_now : Nat → Int32) (a_past : Nat → Int32) (n_saved : Int32) (n_hash : Int64) (K : Int32 → (Nat → Int32) → Prop) : Option Value → va_W → Prop := fun v ws' => ∃ (r0 : Int32) (a_errors : Nat → Int32), v = some (.int r0) ∧ ws' = [(h0, .inr (8, [.ref h1, .ref h2, .int n_saved, .ref h3, .long n_hash])), (h1, .inl (E.2.1, 404, .inl a_now)), (h2, .inl (E.2.1, 1212, .inl a_past)), (h3, .inl (E.2.1, 9, .inl a_errors))] ∧ K r0 a_errors
def wp_X9_cookieSize (a_now : Nat → Int32) (a_past : Nat → Int32) (n_saved : Int32) (a_errors : Nat → Int32) (n_hash : Int64) (p1 : Int32) (K : Int32 → (Nat → Int32) → Prop) : Prop := (wp_X9_isCookie p1 (fun (r1 : Int32) => ((r1 = 0 → (wp_X9_fails a_now a_past n_saved a_errors n_hash (-2) (fun (r3 : Int32) (g4 : Nat → Int32) => K r3 g4))) ∧ (¬ (r1 = 0) → (wp_X9_optionOf p1 (fun (r5 : Int32) => (wp_X9_sizeOf r5 (fun (r6 : Int32) => K r6 a_errors))))))))
set_option maxRecDepth 100000 in
set_option maxHeartbeats 4000000 in
theorem ct_X9_cookieSize (l : Launch) (E : EN) (h0 : Nat) (h1 : Nat) (h2 : Nat) (h3 : Nat) (a_now : Nat → Int32) (a_past : Nat → Int32) (n_saved : Int32) (a_errors : Nat → Int32) (n_hash : Int64) (p1 : Int32) (K : Int32 → (Nat → Int32) → Prop) (hw : wp_X9_cookieSize a_now a_past n_saved a_errors n_hash p1 K) : Con l yX9_cookieSize cX9_cookieSize 2 (some .int) { frames := 2, cells := 0, slots := 0, locals := 42 } E [.ref h0, .int p1] [(h0, .inr (8, [.ref h1, .ref h2, .int n_saved, .ref h3, .long n_hash])), (h1, .inl (E.2.1, 404, .inl a_now)), (h2, .inl (E.2.1, 1212, .inl a_past)), (h3, .inl (E.2.1, 9, .inl a_errors))] (po_X9_cookieSize E h0 h1 h2 h3 a_now a_past n_saved n_hash K) := by
  refine Con.mk (by decide +kernel) (Nat.le_of_ble_eq_true rfl) ?_
  intro p e s m below meth c A hC hr hin
  have hC : Cx p s m _ meth c E A cX9_cookieSize 2 "CookieServerModel" := hC
  rw [wp_X9_cookieSize] at hw
  refine V_cast [(0, .ref h0), (1, .int p1)] [] [(h0, .inr (8, [.ref h1, .ref h2, .int n_saved, .ref h3, .long n_hash])), (h1, .inl (E.2.1, 404, .inl a_now)), (h2, .inl (E.2.1, 1212, .inl a_past)), (h3, .inl (E.2.1, 9, .inl a_errors))] [0, 1] [0, 1, 2, 3] rfl rfl rfl rfl ?_
  refine V_iload_n hC 1 rfl rfl dX9_cookieSize_0 ?_
  refine V_callS hC (wr := [(h0, .inr (8, [.ref h1, .ref h2, .int n_saved, .ref h3, .long n_hash])), (h1, .inl (E.2.1, 404, .inl a_now)), (h2, .inl (E.2.1, 1212, .inl a_past)), (h3, .inl (E.2.1, 9, .inl a_errors))]) 1 [.int p1] [] (ct_X9_isCookie l E p1 _ hw) wd_715 wd_40 wd_713 wd_714 (by decide +kernel) rfl ⟨Nat.le_of_ble_eq_true rfl, Nat.le_of_ble_eq_true rfl⟩ [] [0, 1, 2, 3] rfl rfl rfl rfl (by decide) rfl (Nat.le_of_ble_eq_true rfl) ⟨Nat.le_of_ble_eq_true rfl, Nat.le_of_ble_eq_true rfl⟩ dX9_cookieSize_1 (fun v ws' hp => ?_)
  obtain ⟨r1, rfl, rfl, hw⟩ := hp
  refine V_cast [(0, .ref h0), (1, .int p1)] [.int r1] [(h0, .inr (8, [.ref h1, .ref h2, .int n_saved, .ref h3, .long n_hash])), (h1, .inl (E.2.1, 404, .inl a_now)), (h2, .inl (E.2.1, 1212, .inl a_past)), (h3, .inl (E.2.1, 9, .inl a_errors))] [0, 1] [0, 1, 2, 3] rfl rfl rfl rfl ?_
  refine V_if_eq hC 17 (by decide) dX9_cookieSize_4 (fun c2 => ?_) (fun c2 => ?_)
  · have hw := hw.1 c2
    refine V_aload_n hC 0 rfl rfl dX9_cookieSize_17 ?_
    refine V_bipush hC (-2) dX9_cookieSize_18 (by decide) ?_
    refine V_callV hC (wr := []) 1 [.int (-2)] [] (ct_X9_fails l E h0 h1 h2 h3 a_now a_past n_saved a_errors n_hash (-2) _ hw) wd_634 wd_40 wd_631 wd_633 wd_12 (by decide +kernel) rfl ⟨Nat.le_of_ble_eq_true rfl, Nat.le_of_ble_eq_true rfl⟩ [0, 1, 2, 3] [] rfl rfl rfl rfl (by decide) rfl rfl rfl (Nat.le_of_ble_eq_true rfl) ⟨Nat.le_of_ble_eq_true rfl, Nat.le_of_ble_eq_true rfl⟩ dX9_cookieSize_20 (fun v ws' hp => ?_)
    obtain ⟨r3, g4, rfl, rfl, hw⟩ := hp
    refine V_cast [(0, .ref h0), (1, .int p1)] [.int r3] [(h0, .inr (8, [.ref h1, .ref h2, .int n_saved, .ref h3, .long n_hash])), (h1, .inl (E.2.1, 404, .inl a_now)), (h2, .inl (E.2.1, 1212, .inl a_past)), (h3, .inl (E.2.1, 9, .inl g4))] [0, 1] [0, 1, 2, 3] rfl rfl rfl rfl ?_
    exact V_iret hC hr ⟨r3, g4, rfl, rfl, hw⟩ dX9_cookieSize_23
  · have hw := hw.2 c2
    refine V_iload_n hC 1 rfl rfl dX9_cookieSize_7 ?_
    refine V_callS hC (wr := [(h0, .inr (8, [.ref h1, .ref h2, .int n_saved, .ref h3, .long n_hash])), (h1, .inl (E.2.1, 404, .inl a_now)), (h2, .inl (E.2.1, 1212, .inl a_past)), (h3, .inl (E.2.1, 9, .inl a_errors))]) 1 [.int p1] [] (ct_X9_optionOf l E p1 _ hw) wd_739 wd_40 wd_737 wd_738 (by decide +kernel) rfl ⟨Nat.le_of_ble_eq_true rfl, Nat.le_of_ble_eq_true rfl⟩ [] [0, 1, 2, 3] rfl rfl rfl rfl (by decide) rfl (Nat.le_of_ble_eq_true rfl) ⟨Nat.le_of_ble_eq_true rfl, Nat.le_of_ble_eq_true rfl⟩ dX9_cookieSize_8 (fun v ws' hp => ?_)
    obtain ⟨r5, rfl, rfl, hw⟩ := hp
    refine V_cast [(0, .ref h0), (1, .int p1)] [.int r5] [(h0, .inr (8, [.ref h1, .ref h2, .int n_saved, .ref h3, .long n_hash])), (h1, .inl (E.2.1, 404, .inl a_now)), (h2, .inl (E.2.1, 1212, .inl a_past)), (h3, .inl (E.2.1, 9, .inl a_errors))] [0, 1] [0, 1, 2, 3] rfl rfl rfl rfl ?_
    refine V_callS hC (wr := [(h0, .inr (8, [.ref h1, .ref h2, .int n_saved, .ref h3, .long n_hash])), (h1, .inl (E.2.1, 404, .inl a_now)), (h2, .inl (E.2.1, 1212, .inl a_past)), (h3, .inl (E.2.1, 9, .inl a_errors))]) 1 [.int r5] [] (ct_X9_sizeOf l E r5 _ hw) wd_691 wd_40 wd_689 wd_690 (by decide +kernel) rfl ⟨Nat.le_of_ble_eq_true rfl, Nat.le_of_ble_eq_true rfl⟩ [] [0, 1, 2, 3] rfl rfl rfl rfl (by decide) rfl (Nat.le_of_ble_eq_true rfl) ⟨Nat.le_of_ble_eq_true rfl, Nat.le_of_ble_eq_true rfl⟩ dX9_cookieSize_11 (fun v ws' hp => ?_)
    obtain ⟨r6, rfl, rfl, hw⟩ := hp
    refine V_cast [(0, .ref h0), (1, .int p1)] [.int r6] [(h0, .inr (8, [.ref h1, .ref h2, .int n_saved, .ref h3, .long n_hash])), (h1, .inl (E.2.1, 404, .inl a_now)), (h2, .inl (E.2.1, 1212, .inl a_past)), (h3, .inl (E.2.1, 9, .inl a_errors))] [0, 1] [0, 1, 2, 3] rfl rfl rfl rfl ?_
    refine V_goto hC 23 (by decide) dX9_cookieSize_14 ?_
    exact V_iret hC hr ⟨r6, a_errors, rfl, rfl, hw⟩ dX9_cookieSize_23
abbrev po_X9_work (E : EN) (h0 : Nat) (h1 : Nat) (h2 : Nat) (h3 : Nat) (a_now : Nat → Int32) (a_past : Nat → Int32) (n_saved : Int32) (a_errors : Nat → Int32) (n_hash : Int64) (K : Int32 → Prop) : Option Value → va_W → Prop := fun v ws' => ∃ (r0 : Int32), v = some (.int r0) ∧ ws' = [(h0, .inr (8, [.ref h1, .ref h2, .int n_saved, .ref h3, .long n_hash])), (h1, .inl (E.2.1, 404, .inl a_now)), (h2, .inl (E.2.1, 1212, .inl a_past)), (h3, .inl (E.2.1, 9, .inl a_errors))] ∧ K r0
def wp_X9_work (a_now : Nat → Int32) (a_past : Nat → Int32) (n_saved : Int32) (a_errors : Nat → Int32) (n_hash : Int64) (K : Int32 → Prop) : Prop := K (a_now 5)
set_option maxRecDepth 100000 in
set_option maxHeartbeats 4000000 in
theorem ct_X9_work (l : Launch) (E : EN) (h0 : Nat) (h1 : Nat) (h2 : Nat) (h3 : Nat) (a_now : Nat → Int32) (a_past : Nat → Int32) (n_saved : Int32) (a_errors : Nat → Int32) (n_hash : Int64) (K : Int32 → Prop) (hw : wp_X9_work a_now a_past n_saved a_errors n_hash K) : Con l yX9_work cX9_work 1 (some .int) { frames := 0, cells := 0, slots := 0, locals := 0 } E [.ref h0] [(h0, .inr (8, [.ref h1, .ref h2, .int n_saved, .ref h3, .long n_hash])), (h1, .inl (E.2.1, 404, .inl a_now)), (h2, .inl (E.2.1, 1212, .inl a_past)), (h3, .inl (E.2.1, 9, .inl a_errors))] (po_X9_work E h0 h1 h2 h3 a_now a_past n_saved a_errors n_hash K) := by
  refine Con.mk (by decide +kernel) (Nat.le_of_ble_eq_true rfl) ?_
  intro p e s m below meth c A hC hr hin
  have hC : Cx p s m _ meth c E A cX9_work 1 "CookieServerModel" := hC
  rw [wp_X9_work] at hw
  refine V_cast [(0, .ref h0)] [] [(h0, .inr (8, [.ref h1, .ref h2, .int n_saved, .ref h3, .long n_hash])), (h1, .inl (E.2.1, 404, .inl a_now)), (h2, .inl (E.2.1, 1212, .inl a_past)), (h3, .inl (E.2.1, 9, .inl a_errors))] [0] [0, 1, 2, 3] rfl rfl rfl rfl ?_
  refine V_aload_n hC 0 rfl rfl dX9_work_0 ?_
  refine V_get hC inX9 rfl 0 (by decide) wd_611 0 rfl rfl dX9_work_1 ?_
  refine V_iconst hC 5 dX9_work_4 (by decide) ?_
  refine V_iald hC 5 (by decide) 1 rfl (by unfold vp_in; decide) dX9_work_5 ?_
  exact V_iret hC hr ⟨a_now 5, rfl, rfl, hw⟩ dX9_work_6
abbrev po_X9_request (E : EN) (h0 : Nat) (h1 : Nat) (h2 : Nat) (h3 : Nat) (n_hash : Int64) (K : Int32 → (Nat → Int32) → (Nat → Int32) → Int32 → (Nat → Int32) → Prop) : Option Value → va_W → Prop := fun v ws' => ∃ (r0 : Int32) (a_now : Nat → Int32) (a_past : Nat → Int32) (n_saved : Int32) (a_errors : Nat → Int32), v = some (.int r0) ∧ ws' = [(h0, .inr (8, [.ref h1, .ref h2, .int n_saved, .ref h3, .long n_hash])), (h1, .inl (E.2.1, 404, .inl a_now)), (h2, .inl (E.2.1, 1212, .inl a_past)), (h3, .inl (E.2.1, 9, .inl a_errors))] ∧ K r0 a_now a_past n_saved a_errors
def wp_X9_request (a_now : Nat → Int32) (a_past : Nat → Int32) (n_saved : Int32) (a_errors : Nat → Int32) (n_hash : Int64) (p1 : Int32) (p2 : Int32) (K : Int32 → (Nat → Int32) → (Nat → Int32) → Int32 → (Nat → Int32) → Prop) : Prop := (wp_X9_isClient p1 (fun (r1 : Int32) => ((r1 = 0 → (wp_X9_fails a_now a_past n_saved a_errors n_hash (-2) (fun (r3 : Int32) (g4 : Nat → Int32) => K r3 a_now a_past n_saved g4))) ∧ (¬ (r1 = 0) → (wp_X9_within p2 1 9 (fun (r5 : Int32) => ((¬ r5 = 0 → (vp_in (228 + p1) 404 ∧ ((¬ (a_now (Int32.toNatClampNeg (228 + p1))) = 8 → (wp_X9_connectionsOf a_now a_past n_saved a_errors n_hash p1 (fun (r8 : Int32) => ((¬ r8 = 0 → (wp_X9_saves a_now a_past n_saved a_errors n_hash (fun (g10 : Nat → Int32) (s11 : Int32) => (vp_in (228 + p1) 404 ∧ (vp_in ((244 + (8 * p1)) + (a_now (Int32.toNatClampNeg (228 + p1)))) 404 ∧ (∀ f12 : Nat → Int32, f12 = upd a_now (Int32.toNatClampNeg ((244 + (8 * p1)) + (a_now (Int32.toNatClampNeg (228 + p1))))) p2 → (vp_in (228 + p1) 404 ∧ (vp_in (228 + p1) 404 ∧ (∀ f13 : Nat → Int32, f13 = upd f12 (Int32.toNatClampNeg (228 + p1)) ((f12 (Int32.toNatClampNeg (228 + p1))) + 1) → (vp_in (228 + p1) 404 ∧ K (f13 (Int32.toNatClampNeg (228 + p1))) f13 g10 s11 a_errors)))))))))) ∧ (r8 = 0 → (wp_X9_fails a_now a_past n_saved a_errors n_hash (-9) (fun (r14 : Int32) (g15 : Nat → Int32) => K r14 a_now a_past n_saved g15))))))) ∧ ((a_now (Int32.toNatClampNeg (228 + p1))) = 8 → (wp_X9_fails a_now a_past n_saved a_errors n_hash (-4) (fun (r16 : Int32) (g17 : Nat → Int32) => K r16 a_now a_past n_saved g17)))))) ∧ (r5 = 0 → (wp_X9_fails a_now a_past n_saved a_errors n_hash (-2) (fun (r18 : Int32) (g19 : Nat → Int32) => K r18 a_now a_past n_saved g19))))))))))
set_option maxRecDepth 100000 in
set_option maxHeartbeats 4000000 in
theorem ct_X9_request (l : Launch) (E : EN) (h0 : Nat) (h1 : Nat) (h2 : Nat) (h3 : Nat) (a_now : Nat → Int32) (a_past : Nat → Int32) (n_saved : Int32) (a_errors : Nat → Int32) (n_hash : Int64) (p1 : Int32) (p2 : Int32) (K : Int32 → (Nat → Int32) → (Nat → Int32) → Int32 → (Nat → Int32) → Prop) (hw : wp_X9_request a_now a_past n_saved a_errors n_hash p1 p2 K) : Con l yX9_request cX9_request 3 (some .int) { frames := 3, cells := 0, slots := 0, locals := 67 } E [.ref h0, .int p1, .int p2] [(h0, .inr (8, [.ref h1, .ref h2, .int n_saved, .ref h3, .long n_hash])), (h1, .inl (E.2.1, 404, .inl a_now)), (h2, .inl (E.2.1, 1212, .inl a_past)), (h3, .inl (E.2.1, 9, .inl a_errors))] (po_X9_request E h0 h1 h2 h3 n_hash K) := by
  refine Con.mk (by decide +kernel) (Nat.le_of_ble_eq_true rfl) ?_
  intro p e s m below meth c A hC hr hin
  have hC : Cx p s m _ meth c E A cX9_request 3 "CookieServerModel" := hC
  rw [wp_X9_request] at hw
  refine V_cast [(0, .ref h0), (1, .int p1), (2, .int p2)] [] [(h0, .inr (8, [.ref h1, .ref h2, .int n_saved, .ref h3, .long n_hash])), (h1, .inl (E.2.1, 404, .inl a_now)), (h2, .inl (E.2.1, 1212, .inl a_past)), (h3, .inl (E.2.1, 9, .inl a_errors))] [0, 1, 2] [0, 1, 2, 3] rfl rfl rfl rfl ?_
  refine V_iload_n hC 1 rfl rfl dX9_request_0 ?_
  refine V_callS hC (wr := [(h0, .inr (8, [.ref h1, .ref h2, .int n_saved, .ref h3, .long n_hash])), (h1, .inl (E.2.1, 404, .inl a_now)), (h2, .inl (E.2.1, 1212, .inl a_past)), (h3, .inl (E.2.1, 9, .inl a_errors))]) 1 [.int p1] [] (ct_X9_isClient l E p1 _ hw) wd_799 wd_40 wd_797 wd_798 (by decide +kernel) rfl ⟨Nat.le_of_ble_eq_true rfl, Nat.le_of_ble_eq_true rfl⟩ [] [0, 1, 2, 3] rfl rfl rfl rfl (by decide) rfl (Nat.le_of_ble_eq_true rfl) ⟨Nat.le_of_ble_eq_true rfl, Nat.le_of_ble_eq_true rfl⟩ dX9_request_1 (fun v ws' hp => ?_)
  obtain ⟨r1, rfl, rfl, hw⟩ := hp
  refine V_cast [(0, .ref h0), (1, .int p1), (2, .int p2)] [.int r1] [(h0, .inr (8, [.ref h1, .ref h2, .int n_saved, .ref h3, .long n_hash])), (h1, .inl (E.2.1, 404, .inl a_now)), (h2, .inl (E.2.1, 1212, .inl a_past)), (h3, .inl (E.2.1, 9, .inl a_errors))] [0, 1, 2] [0, 1, 2, 3] rfl rfl rfl rfl ?_
  refine V_if_eq hC 17 (by decide) dX9_request_4 (fun c2 => ?_) (fun c2 => ?_)
  · have hw := hw.1 c2
    refine V_aload_n hC 0 rfl rfl dX9_request_17 ?_
    refine V_bipush hC (-2) dX9_request_18 (by decide) ?_
    refine V_callV hC (wr := []) 1 [.int (-2)] [] (ct_X9_fails l E h0 h1 h2 h3 a_now a_past n_saved a_errors n_hash (-2) _ hw) wd_634 wd_40 wd_631 wd_633 wd_12 (by decide +kernel) rfl ⟨Nat.le_of_ble_eq_true rfl, Nat.le_of_ble_eq_true rfl⟩ [0, 1, 2, 3] [] rfl rfl rfl rfl (by decide) rfl rfl rfl (Nat.le_of_ble_eq_true rfl) ⟨Nat.le_of_ble_eq_true rfl, Nat.le_of_ble_eq_true rfl⟩ dX9_request_20 (fun v ws' hp => ?_)
    obtain ⟨r3, g4, rfl, rfl, hw⟩ := hp
    refine V_cast [(0, .ref h0), (1, .int p1), (2, .int p2)] [.int r3] [(h0, .inr (8, [.ref h1, .ref h2, .int n_saved, .ref h3, .long n_hash])), (h1, .inl (E.2.1, 404, .inl a_now)), (h2, .inl (E.2.1, 1212, .inl a_past)), (h3, .inl (E.2.1, 9, .inl g4))] [0, 1, 2] [0, 1, 2, 3] rfl rfl rfl rfl ?_
    exact V_iret hC hr ⟨r3, a_now, a_past, n_saved, g4, rfl, rfl, hw⟩ dX9_request_23
  · have hw := hw.2 c2
    refine V_iload_n hC 2 rfl rfl dX9_request_7 ?_
    refine V_iconst hC 1 dX9_request_8 (by decide) ?_
    refine V_bipush hC 9 dX9_request_9 (by decide) ?_
    refine V_callS hC (wr := [(h0, .inr (8, [.ref h1, .ref h2, .int n_saved, .ref h3, .long n_hash])), (h1, .inl (E.2.1, 404, .inl a_now)), (h2, .inl (E.2.1, 1212, .inl a_past)), (h3, .inl (E.2.1, 9, .inl a_errors))]) 3 [.int p2, .int 1, .int 9] [] (ct_X9_within l E p2 1 9 _ hw) wd_641 wd_40 wd_639 wd_640 (by decide +kernel) rfl ⟨Nat.le_of_ble_eq_true rfl, Nat.le_of_ble_eq_true rfl⟩ [] [0, 1, 2, 3] rfl rfl rfl rfl (by decide) rfl (Nat.le_of_ble_eq_true rfl) ⟨Nat.le_of_ble_eq_true rfl, Nat.le_of_ble_eq_true rfl⟩ dX9_request_11 (fun v ws' hp => ?_)
    obtain ⟨r5, rfl, rfl, hw⟩ := hp
    refine V_cast [(0, .ref h0), (1, .int p1), (2, .int p2)] [.int r5] [(h0, .inr (8, [.ref h1, .ref h2, .int n_saved, .ref h3, .long n_hash])), (h1, .inl (E.2.1, 404, .inl a_now)), (h2, .inl (E.2.1, 1212, .inl a_past)), (h3, .inl (E.2.1, 9, .inl a_errors))] [0, 1, 2] [0, 1, 2, 3] rfl rfl rfl rfl ?_
    refine V_if_ne hC 24 (by decide) dX9_request_14 (fun c6 => ?_) (fun c6 => ?_)
    · have hw := hw.1 c6
      refine V_aload_n hC 0 rfl rfl dX9_request_24 ?_
      refine V_get hC inX9 rfl 0 (by decide) wd_611 0 rfl rfl dX9_request_25 ?_
      refine V_sipush hC 228 dX9_request_28 (by decide) ?_
      refine V_iload_n hC 1 rfl rfl dX9_request_31 ?_
      refine V_iadd hC dX9_request_32 ?_
      refine V_iald hC _ rfl 1 rfl hw.1 dX9_request_33 ?_
      have hw := hw.2
      refine V_bipush hC 8 dX9_request_34 (by decide) ?_
      refine V_icmp_ne hC 46 (by decide) dX9_request_36 (fun c7 => ?_) (fun c7 => ?_)
      · have hw := hw.1 c7
        refine V_aload_n hC 0 rfl rfl dX9_request_46 ?_
        refine V_iload_n hC 1 rfl rfl dX9_request_47 ?_
        refine V_callV hC (wr := []) 1 [.int p1] [] (ct_X9_connectionsOf l E h0 h1 h2 h3 a_now a_past n_saved a_errors n_hash p1 _ hw) wd_724 wd_40 wd_721 wd_723 wd_22 (by decide +kernel) rfl ⟨Nat.le_of_ble_eq_true rfl, Nat.le_of_ble_eq_true rfl⟩ [0, 1, 2, 3] [] rfl rfl rfl rfl (by decide) rfl rfl rfl (Nat.le_of_ble_eq_true rfl) ⟨Nat.le_of_ble_eq_true rfl, Nat.le_of_ble_eq_true rfl⟩ dX9_request_48 (fun v ws' hp => ?_)
        obtain ⟨r8, rfl, rfl, hw⟩ := hp
        refine V_cast [(0, .ref h0), (1, .int p1), (2, .int p2)] [.int r8] [(h0, .inr (8, [.ref h1, .ref h2, .int n_saved, .ref h3, .long n_hash])), (h1, .inl (E.2.1, 404, .inl a_now)), (h2, .inl (E.2.1, 1212, .inl a_past)), (h3, .inl (E.2.1, 9, .inl a_errors))] [0, 1, 2] [0, 1, 2, 3] rfl rfl rfl rfl ?_
        refine V_if_ne hC 61 (by decide) dX9_request_51 (fun c9 => ?_) (fun c9 => ?_)
        · have hw := hw.1 c9
          refine V_aload_n hC 0 rfl rfl dX9_request_61 ?_
          refine V_callV hC (wr := []) 0 [] [] (ct_X9_saves l E h0 h1 h2 h3 a_now a_past n_saved a_errors n_hash _ hw) wd_645 wd_40 wd_642 wd_644 wd_13 (by decide +kernel) rfl ⟨Nat.le_of_ble_eq_true rfl, Nat.le_of_ble_eq_true rfl⟩ [0, 1, 2, 3] [] rfl rfl rfl rfl (by decide) rfl rfl rfl (Nat.le_of_ble_eq_true rfl) ⟨Nat.le_of_ble_eq_true rfl, Nat.le_of_ble_eq_true rfl⟩ dX9_request_62 (fun v ws' hp => ?_)
          obtain ⟨g10, s11, rfl, rfl, hw⟩ := hp
          refine V_cast [(0, .ref h0), (1, .int p1), (2, .int p2)] [] [(h0, .inr (8, [.ref h1, .ref h2, .int s11, .ref h3, .long n_hash])), (h1, .inl (E.2.1, 404, .inl a_now)), (h2, .inl (E.2.1, 1212, .inl g10)), (h3, .inl (E.2.1, 9, .inl a_errors))] [0, 1, 2] [0, 1, 2, 3] rfl rfl rfl rfl ?_
          refine V_aload_n hC 0 rfl rfl dX9_request_65 ?_
          refine V_get hC inX9 rfl 0 (by decide) wd_611 0 rfl rfl dX9_request_66 ?_
          refine V_sipush hC 244 dX9_request_69 (by decide) ?_
          refine V_bipush hC 8 dX9_request_72 (by decide) ?_
          refine V_iload_n hC 1 rfl rfl dX9_request_74 ?_
          refine V_imul hC dX9_request_75 ?_
          refine V_iadd hC dX9_request_76 ?_
          refine V_aload_n hC 0 rfl rfl dX9_request_77 ?_
          refine V_get hC inX9 rfl 0 (by decide) wd_611 0 rfl rfl dX9_request_78 ?_
          refine V_sipush hC 228 dX9_request_81 (by decide) ?_
          refine V_iload_n hC 1 rfl rfl dX9_request_84 ?_
          refine V_iadd hC dX9_request_85 ?_
          refine V_iald hC _ rfl 1 rfl hw.1 dX9_request_86 ?_
          have hw := hw.2
          refine V_iadd hC dX9_request_87 ?_
          refine V_iload_n hC 2 rfl rfl dX9_request_88 ?_
          refine V_iast hC _ rfl 1 rfl hw.1 dX9_request_89 (fun f12 ef12 => ?_)
          have hw := hw.2
          have hw := hw f12 ef12
          refine V_ws [(h0, .inr (8, [.ref h1, .ref h2, .int s11, .ref h3, .long n_hash])), (h1, .inl (E.2.1, 404, .inl f12)), (h2, .inl (E.2.1, 1212, .inl g10)), (h3, .inl (E.2.1, 9, .inl a_errors))] rfl ?_
          refine V_aload_n hC 0 rfl rfl dX9_request_90 ?_
          refine V_get hC inX9 rfl 0 (by decide) wd_611 0 rfl rfl dX9_request_91 ?_
          refine V_sipush hC 228 dX9_request_94 (by decide) ?_
          refine V_iload_n hC 1 rfl rfl dX9_request_97 ?_
          refine V_iadd hC dX9_request_98 ?_
          refine V_dup2 hC rfl rfl dX9_request_99 ?_
          refine V_iald hC _ rfl 1 rfl hw.1 dX9_request_100 ?_
          have hw := hw.2
          refine V_iconst hC 1 dX9_request_101 (by decide) ?_
          refine V_iadd hC dX9_request_102 ?_
          refine V_iast hC _ rfl 1 rfl hw.1 dX9_request_103 (fun f13 ef13 => ?_)
          have hw := hw.2
          have hw := hw f13 ef13
          refine V_ws [(h0, .inr (8, [.ref h1, .ref h2, .int s11, .ref h3, .long n_hash])), (h1, .inl (E.2.1, 404, .inl f13)), (h2, .inl (E.2.1, 1212, .inl g10)), (h3, .inl (E.2.1, 9, .inl a_errors))] rfl ?_
          refine V_aload_n hC 0 rfl rfl dX9_request_104 ?_
          refine V_get hC inX9 rfl 0 (by decide) wd_611 0 rfl rfl dX9_request_105 ?_
          refine V_sipush hC 228 dX9_request_108 (by decide) ?_
          refine V_iload_n hC 1 rfl rfl dX9_request_111 ?_
          refine V_iadd hC dX9_request_112 ?_
          refine V_iald hC _ rfl 1 rfl hw.1 dX9_request_113 ?_
          have hw := hw.2
          exact V_iret hC hr ⟨f13 (Int32.toNatClampNeg (228 + p1)), f13, g10, s11, a_errors, rfl, rfl, hw⟩ dX9_request_114
        · have hw := hw.2 c9
          refine V_aload_n hC 0 rfl rfl dX9_request_54 ?_
          refine V_bipush hC (-9) dX9_request_55 (by decide) ?_
          refine V_callV hC (wr := []) 1 [.int (-9)] [] (ct_X9_fails l E h0 h1 h2 h3 a_now a_past n_saved a_errors n_hash (-9) _ hw) wd_634 wd_40 wd_631 wd_633 wd_12 (by decide +kernel) rfl ⟨Nat.le_of_ble_eq_true rfl, Nat.le_of_ble_eq_true rfl⟩ [0, 1, 2, 3] [] rfl rfl rfl rfl (by decide) rfl rfl rfl (Nat.le_of_ble_eq_true rfl) ⟨Nat.le_of_ble_eq_true rfl, Nat.le_of_ble_eq_true rfl⟩ dX9_request_57 (fun v ws' hp => ?_)
          obtain ⟨r14, g15, rfl, rfl, hw⟩ := hp
          refine V_cast [(0, .ref h0), (1, .int p1), (2, .int p2)] [.int r14] [(h0, .inr (8, [.ref h1, .ref h2, .int n_saved, .ref h3, .long n_hash])), (h1, .inl (E.2.1, 404, .inl a_now)), (h2, .inl (E.2.1, 1212, .inl a_past)), (h3, .inl (E.2.1, 9, .inl g15))] [0, 1, 2] [0, 1, 2, 3] rfl rfl rfl rfl ?_
          exact V_iret hC hr ⟨r14, a_now, a_past, n_saved, g15, rfl, rfl, hw⟩ dX9_request_60
      · have hw := hw.2 c7
        refine V_aload_n hC 0 rfl rfl dX9_request_39 ?_
        refine V_bipush hC (-4) dX9_request_40 (by decide) ?_
        refine V_callV hC (wr := []) 1 [.int (-4)] [] (ct_X9_fails l E h0 h1 h2 h3 a_now a_past n_saved a_errors n_hash (-4) _ hw) wd_634 wd_40 wd_631 wd_633 wd_12 (by decide +kernel) rfl ⟨Nat.le_of_ble_eq_true rfl, Nat.le_of_ble_eq_true rfl⟩ [0, 1, 2, 3] [] rfl rfl rfl rfl (by decide) rfl rfl rfl (Nat.le_of_ble_eq_true rfl) ⟨Nat.le_of_ble_eq_true rfl, Nat.le_of_ble_eq_true rfl⟩ dX9_request_42 (fun v ws' hp => ?_)
        obtain ⟨r16, g17, rfl, rfl, hw⟩ := hp
        refine V_cast [(0, .ref h0), (1, .int p1), (2, .int p2)] [.int r16] [(h0, .inr (8, [.ref h1, .ref h2, .int n_saved, .ref h3, .long n_hash])), (h1, .inl (E.2.1, 404, .inl a_now)), (h2, .inl (E.2.1, 1212, .inl a_past)), (h3, .inl (E.2.1, 9, .inl g17))] [0, 1, 2] [0, 1, 2, 3] rfl rfl rfl rfl ?_
        exact V_iret hC hr ⟨r16, a_now, a_past, n_saved, g17, rfl, rfl, hw⟩ dX9_request_45
    · have hw := hw.2 c6
      refine V_aload_n hC 0 rfl rfl dX9_request_17 ?_
      refine V_bipush hC (-2) dX9_request_18 (by decide) ?_
      refine V_callV hC (wr := []) 1 [.int (-2)] [] (ct_X9_fails l E h0 h1 h2 h3 a_now a_past n_saved a_errors n_hash (-2) _ hw) wd_634 wd_40 wd_631 wd_633 wd_12 (by decide +kernel) rfl ⟨Nat.le_of_ble_eq_true rfl, Nat.le_of_ble_eq_true rfl⟩ [0, 1, 2, 3] [] rfl rfl rfl rfl (by decide) rfl rfl rfl (Nat.le_of_ble_eq_true rfl) ⟨Nat.le_of_ble_eq_true rfl, Nat.le_of_ble_eq_true rfl⟩ dX9_request_20 (fun v ws' hp => ?_)
      obtain ⟨r18, g19, rfl, rfl, hw⟩ := hp
      refine V_cast [(0, .ref h0), (1, .int p1), (2, .int p2)] [.int r18] [(h0, .inr (8, [.ref h1, .ref h2, .int n_saved, .ref h3, .long n_hash])), (h1, .inl (E.2.1, 404, .inl a_now)), (h2, .inl (E.2.1, 1212, .inl a_past)), (h3, .inl (E.2.1, 9, .inl g19))] [0, 1, 2] [0, 1, 2, 3] rfl rfl rfl rfl ?_
      exact V_iret hC hr ⟨r18, a_now, a_past, n_saved, g19, rfl, rfl, hw⟩ dX9_request_23
