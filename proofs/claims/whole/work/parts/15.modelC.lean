abbrev po_X9_waiting (E : EN) (h0 : Nat) (h1 : Nat) (h2 : Nat) (h3 : Nat) (a_now : Nat → Int32) (a_past : Nat → Int32) (n_saved : Int32) (a_errors : Nat → Int32) (n_hash : Int64) (K : Int32 → Prop) : Option Value → va_W → Prop := fun v ws' => ∃ (r0 : Int32), v = some (.int r0) ∧ ws' = [(h0, .inr (8, [.ref h1, .ref h2, .int n_saved, .ref h3, .long n_hash])), (h1, .inl (E.2.1, 404, .inl a_now)), (h2, .inl (E.2.1, 1212, .inl a_past)), (h3, .inl (E.2.1, 9, .inl a_errors))] ∧ K r0
def wpl_X9_waiting_4 (a_now : Nat → Int32) (a_past : Nat → Int32) (n_saved : Int32) (a_errors : Nat → Int32) (n_hash : Int64) (K : Int32 → Prop) : Nat → Int32 → Int32 → Prop
  | 0, _, _ => False
  | n9 + 1, x1, x2 => ((16 ≤ x2 → K x1) ∧ (¬ (16 ≤ x2) → (vp_in (228 + x2) 404 ∧ wpl_X9_waiting_4 a_now a_past n_saved a_errors n_hash K n9 (x1 + (a_now (Int32.toNatClampNeg (228 + x2)))) (x2 + 1))))
set_option maxRecDepth 100000 in
set_option maxHeartbeats 4000000 in
theorem bl_X9_waiting_4 {p : Program} {l : Launch} {e : Env} {s : State} {m : MethodId} {args : Array Value} {below : List Frame} {meth : Method} {c : Code} {E : EN} {A : Nat → Prop} (hC : Cx p s m args meth c E A cX9_waiting 3 "CookieServerModel") (hr : meth.sig.returnType = some .int) (h0 : Nat) (h1 : Nat) (h2 : Nat) (h3 : Nat) (a_now : Nat → Int32) (a_past : Nat → Int32) (n_saved : Int32) (a_errors : Nat → Int32) (n_hash : Int64) (K : Int32 → Prop) : ∀ (n8 : Nat) (x1 : Int32) (x2 : Int32), wpl_X9_waiting_4 a_now a_past n_saved a_errors n_hash K n8 x1 x2 → V p l e { frames := 0, cells := 0, slots := 0, locals := 0 } s m args below meth c E A 3 0 0 (MQ below (QP E (po_X9_waiting E h0 h1 h2 h3 a_now a_past n_saved a_errors n_hash K) A) args s 0 0 A) 4 [(0, .ref h0), (1, .int x1), (2, .int x2)] [] [(h0, .inr (8, [.ref h1, .ref h2, .int n_saved, .ref h3, .long n_hash])), (h1, .inl (E.2.1, 404, .inl a_now)), (h2, .inl (E.2.1, 1212, .inl a_past)), (h3, .inl (E.2.1, 9, .inl a_errors))] := by
  intro n8
  induction n8 with
  | zero => intro x1 x2 hw; rw [wpl_X9_waiting_4] at hw; exact hw.elim
  | succ n9 ih =>
    intro x1 x2 hw
    rw [wpl_X9_waiting_4] at hw
    refine V_iload_n hC 2 rfl rfl dX9_waiting_4 ?_
    refine V_bipush hC 16 dX9_waiting_5 (by decide) ?_
    refine V_icmp_ge hC 29 (by decide) dX9_waiting_7 (fun c1 => ?_) (fun c1 => ?_)
    · have hw := hw.1 c1
      refine V_iload_n hC 1 rfl rfl dX9_waiting_29 ?_
      exact V_iret hC hr ⟨x1, rfl, rfl, hw⟩ dX9_waiting_30
    · have hw := hw.2 c1
      refine V_iload_n hC 1 rfl rfl dX9_waiting_10 ?_
      refine V_aload_n hC 0 rfl rfl dX9_waiting_11 ?_
      refine V_get hC inX9 rfl 0 (by decide) wd_611 0 rfl rfl dX9_waiting_12 ?_
      refine V_sipush hC 228 dX9_waiting_15 (by decide) ?_
      refine V_iload_n hC 2 rfl rfl dX9_waiting_18 ?_
      refine V_iadd hC dX9_waiting_19 ?_
      refine V_iald hC _ rfl 1 rfl hw.1 dX9_waiting_20 ?_
      have hw := hw.2
      refine V_iadd hC dX9_waiting_21 ?_
      refine V_istore_n hC [(1, .int (x1 + (a_now (Int32.toNatClampNeg (228 + x2))))), (0, .ref h0), (2, .int x2)] rfl (by decide) rfl dX9_waiting_22 ?_
      refine V_iinc hC (x2 + 1) 2 [(2, .int (x2 + 1)), (1, .int (x1 + (a_now (Int32.toNatClampNeg (228 + x2))))), (0, .ref h0)] rfl (congrArg (fun z => x2 + z) (by decide : Int32.ofInt (1) = (1 : Int32))) (by decide) rfl dX9_waiting_23 ?_
      refine V_goto hC 4 (by decide) dX9_waiting_26 ?_
      refine V_cast [(0, .ref h0), (1, .int (x1 + (a_now (Int32.toNatClampNeg (228 + x2))))), (2, .int (x2 + 1))] [] [(h0, .inr (8, [.ref h1, .ref h2, .int n_saved, .ref h3, .long n_hash])), (h1, .inl (E.2.1, 404, .inl a_now)), (h2, .inl (E.2.1, 1212, .inl a_past)), (h3, .inl (E.2.1, 9, .inl a_errors))] [2, 1, 0] [0, 1, 2, 3] rfl rfl rfl rfl ?_
      exact ih (x1 + (a_now (Int32.toNatClampNeg (228 + x2)))) (x2 + 1) hw
def wp_X9_waiting (a_now : Nat → Int32) (a_past : Nat → Int32) (n_saved : Int32) (a_errors : Nat → Int32) (n_hash : Int64) (K : Int32 → Prop) : Prop := (∃ n8 : Nat, wpl_X9_waiting_4 a_now a_past n_saved a_errors n_hash K n8 0 0)
set_option maxRecDepth 100000 in
set_option maxHeartbeats 4000000 in
theorem ct_X9_waiting (l : Launch) (E : EN) (h0 : Nat) (h1 : Nat) (h2 : Nat) (h3 : Nat) (a_now : Nat → Int32) (a_past : Nat → Int32) (n_saved : Int32) (a_errors : Nat → Int32) (n_hash : Int64) (K : Int32 → Prop) (hw : wp_X9_waiting a_now a_past n_saved a_errors n_hash K) : Con l yX9_waiting cX9_waiting 3 (some .int) { frames := 0, cells := 0, slots := 0, locals := 0 } E [.ref h0] [(h0, .inr (8, [.ref h1, .ref h2, .int n_saved, .ref h3, .long n_hash])), (h1, .inl (E.2.1, 404, .inl a_now)), (h2, .inl (E.2.1, 1212, .inl a_past)), (h3, .inl (E.2.1, 9, .inl a_errors))] (po_X9_waiting E h0 h1 h2 h3 a_now a_past n_saved a_errors n_hash K) := by
  refine Con.mk (by decide +kernel) (Nat.le_of_ble_eq_true rfl) ?_
  intro p e s m below meth c A hC hr hin
  have hC : Cx p s m _ meth c E A cX9_waiting 3 "CookieServerModel" := hC
  rw [wp_X9_waiting] at hw
  refine V_cast [(0, .ref h0)] [] [(h0, .inr (8, [.ref h1, .ref h2, .int n_saved, .ref h3, .long n_hash])), (h1, .inl (E.2.1, 404, .inl a_now)), (h2, .inl (E.2.1, 1212, .inl a_past)), (h3, .inl (E.2.1, 9, .inl a_errors))] [0] [0, 1, 2, 3] rfl rfl rfl rfl ?_
  refine V_iconst hC 0 dX9_waiting_0 (by decide) ?_
  refine V_istore_n hC [(1, .int 0), (0, .ref h0)] rfl (by decide) rfl dX9_waiting_1 ?_
  refine V_iconst hC 0 dX9_waiting_2 (by decide) ?_
  refine V_istore_n hC [(2, .int 0), (1, .int 0), (0, .ref h0)] rfl (by decide) rfl dX9_waiting_3 ?_
  refine V_cast [(0, .ref h0), (1, .int 0), (2, .int 0)] [] [(h0, .inr (8, [.ref h1, .ref h2, .int n_saved, .ref h3, .long n_hash])), (h1, .inl (E.2.1, 404, .inl a_now)), (h2, .inl (E.2.1, 1212, .inl a_past)), (h3, .inl (E.2.1, 9, .inl a_errors))] [2, 1, 0] [0, 1, 2, 3] rfl rfl rfl rfl ?_
  obtain ⟨n8, hw⟩ := hw
  exact bl_X9_waiting_4 hC hr h0 h1 h2 h3 a_now a_past n_saved a_errors n_hash K n8 0 0 hw
abbrev po_X9_moves (E : EN) (h0 : Nat) (h1 : Nat) (h2 : Nat) (h3 : Nat) (a_past : Nat → Int32) (n_saved : Int32) (a_errors : Nat → Int32) (n_hash : Int64) (K : (Nat → Int32) → Prop) : Option Value → va_W → Prop := fun v ws' => ∃ (a_now : Nat → Int32), v = none ∧ ws' = [(h0, .inr (8, [.ref h1, .ref h2, .int n_saved, .ref h3, .long n_hash])), (h1, .inl (E.2.1, 404, .inl a_now)), (h2, .inl (E.2.1, 1212, .inl a_past)), (h3, .inl (E.2.1, 9, .inl a_errors))] ∧ K a_now
def wp_X9_moves (a_now : Nat → Int32) (a_past : Nat → Int32) (n_saved : Int32) (a_errors : Nat → Int32) (n_hash : Int64) (K : (Nat → Int32) → Prop) : Prop := (vp_in (228 + (a_now 6)) 404 ∧ ((¬ (a_now (Int32.toNatClampNeg (228 + (a_now 6)))) = 0 → (vp_in (372 + (a_now 6)) 404 ∧ (vp_in (372 + (a_now 6)) 404 ∧ (∀ f2 : Nat → Int32, f2 = upd a_now (Int32.toNatClampNeg (372 + (a_now 6))) (a_now (Int32.toNatClampNeg (372 + (a_now 6)))) → (∀ f3 : Nat → Int32, f3 = upd f2 6 (jrem ((a_now 6) + 1) 16) → (∀ f4 : Nat → Int32, f4 = upd f3 7 0 → K f4)))))) ∧ ((a_now (Int32.toNatClampNeg (228 + (a_now 6)))) = 0 → (vp_in (372 + (a_now 6)) 404 ∧ (∀ f5 : Nat → Int32, f5 = upd a_now (Int32.toNatClampNeg (372 + (a_now 6))) 0 → (∀ f6 : Nat → Int32, f6 = upd f5 6 (jrem ((a_now 6) + 1) 16) → (∀ f7 : Nat → Int32, f7 = upd f6 7 0 → K f7)))))))
set_option maxRecDepth 100000 in
set_option maxHeartbeats 4000000 in
theorem ct_X9_moves (l : Launch) (E : EN) (h0 : Nat) (h1 : Nat) (h2 : Nat) (h3 : Nat) (a_now : Nat → Int32) (a_past : Nat → Int32) (n_saved : Int32) (a_errors : Nat → Int32) (n_hash : Int64) (K : (Nat → Int32) → Prop) (hw : wp_X9_moves a_now a_past n_saved a_errors n_hash K) : Con l yX9_moves cX9_moves 2 (none) { frames := 0, cells := 0, slots := 0, locals := 0 } E [.ref h0] [(h0, .inr (8, [.ref h1, .ref h2, .int n_saved, .ref h3, .long n_hash])), (h1, .inl (E.2.1, 404, .inl a_now)), (h2, .inl (E.2.1, 1212, .inl a_past)), (h3, .inl (E.2.1, 9, .inl a_errors))] (po_X9_moves E h0 h1 h2 h3 a_past n_saved a_errors n_hash K) := by
  refine Con.mk (by decide +kernel) (Nat.le_of_ble_eq_true rfl) ?_
  intro p e s m below meth c A hC hr hin
  have hC : Cx p s m _ meth c E A cX9_moves 2 "CookieServerModel" := hC
  rw [wp_X9_moves] at hw
  refine V_cast [(0, .ref h0)] [] [(h0, .inr (8, [.ref h1, .ref h2, .int n_saved, .ref h3, .long n_hash])), (h1, .inl (E.2.1, 404, .inl a_now)), (h2, .inl (E.2.1, 1212, .inl a_past)), (h3, .inl (E.2.1, 9, .inl a_errors))] [0] [0, 1, 2, 3] rfl rfl rfl rfl ?_
  refine V_aload_n hC 0 rfl rfl dX9_moves_0 ?_
  refine V_get hC inX9 rfl 0 (by decide) wd_611 0 rfl rfl dX9_moves_1 ?_
  refine V_bipush hC 6 dX9_moves_4 (by decide) ?_
  refine V_iald hC 6 (by decide) 1 rfl (by unfold vp_in; decide) dX9_moves_6 ?_
  refine V_istore_n hC [(1, .int (a_now 6)), (0, .ref h0)] rfl (by decide) rfl dX9_moves_7 ?_
  refine V_aload_n hC 1 rfl rfl dX9_moves_8 ?_
  refine V_get hC inX9 rfl 0 (by decide) wd_611 0 rfl rfl dX9_moves_9 ?_
  refine V_sipush hC 372 dX9_moves_12 (by decide) ?_
  refine V_iload_n hC 0 rfl rfl dX9_moves_15 ?_
  refine V_iadd hC dX9_moves_16 ?_
  refine V_aload_n hC 1 rfl rfl dX9_moves_17 ?_
  refine V_get hC inX9 rfl 0 (by decide) wd_611 0 rfl rfl dX9_moves_18 ?_
  refine V_sipush hC 228 dX9_moves_21 (by decide) ?_
  refine V_iload_n hC 0 rfl rfl dX9_moves_24 ?_
  refine V_iadd hC dX9_moves_25 ?_
  refine V_iald hC _ rfl 1 rfl hw.1 dX9_moves_26 ?_
  have hw := hw.2
  refine V_if_ne hC 34 (by decide) dX9_moves_27 (fun c1 => ?_) (fun c1 => ?_)
  · have hw := hw.1 c1
    refine V_aload_n hC 1 rfl rfl dX9_moves_34 ?_
    refine V_get hC inX9 rfl 0 (by decide) wd_611 0 rfl rfl dX9_moves_35 ?_
    refine V_sipush hC 372 dX9_moves_38 (by decide) ?_
    refine V_iload_n hC 0 rfl rfl dX9_moves_41 ?_
    refine V_iadd hC dX9_moves_42 ?_
    refine V_iald hC _ rfl 1 rfl hw.1 dX9_moves_43 ?_
    have hw := hw.2
    refine V_iast hC _ rfl 1 rfl hw.1 dX9_moves_44 (fun f2 ef2 => ?_)
    have hw := hw.2
    have hw := hw f2 ef2
    refine V_ws [(h0, .inr (8, [.ref h1, .ref h2, .int n_saved, .ref h3, .long n_hash])), (h1, .inl (E.2.1, 404, .inl f2)), (h2, .inl (E.2.1, 1212, .inl a_past)), (h3, .inl (E.2.1, 9, .inl a_errors))] rfl ?_
    refine V_aload_n hC 1 rfl rfl dX9_moves_45 ?_
    refine V_get hC inX9 rfl 0 (by decide) wd_611 0 rfl rfl dX9_moves_46 ?_
    refine V_bipush hC 6 dX9_moves_49 (by decide) ?_
    refine V_iload_n hC 0 rfl rfl dX9_moves_51 ?_
    refine V_iconst hC 1 dX9_moves_52 (by decide) ?_
    refine V_iadd hC dX9_moves_53 ?_
    refine V_bipush hC 16 dX9_moves_54 (by decide) ?_
    refine V_irem hC (by decide) dX9_moves_56 ?_
    refine V_iast hC 6 (by decide) 1 rfl (by unfold vp_in; decide) dX9_moves_57 (fun f3 ef3 => ?_)
    have hw := hw f3 ef3
    refine V_ws [(h0, .inr (8, [.ref h1, .ref h2, .int n_saved, .ref h3, .long n_hash])), (h1, .inl (E.2.1, 404, .inl f3)), (h2, .inl (E.2.1, 1212, .inl a_past)), (h3, .inl (E.2.1, 9, .inl a_errors))] rfl ?_
    refine V_aload_n hC 1 rfl rfl dX9_moves_58 ?_
    refine V_get hC inX9 rfl 0 (by decide) wd_611 0 rfl rfl dX9_moves_59 ?_
    refine V_bipush hC 7 dX9_moves_62 (by decide) ?_
    refine V_iconst hC 0 dX9_moves_64 (by decide) ?_
    refine V_iast hC 7 (by decide) 1 rfl (by unfold vp_in; decide) dX9_moves_65 (fun f4 ef4 => ?_)
    have hw := hw f4 ef4
    refine V_ws [(h0, .inr (8, [.ref h1, .ref h2, .int n_saved, .ref h3, .long n_hash])), (h1, .inl (E.2.1, 404, .inl f4)), (h2, .inl (E.2.1, 1212, .inl a_past)), (h3, .inl (E.2.1, 9, .inl a_errors))] rfl ?_
    exact V_vret hC hr ⟨f4, rfl, rfl, hw⟩ dX9_moves_66
  · have hw := hw.2 c1
    refine V_iconst hC 0 dX9_moves_30 (by decide) ?_
    refine V_goto hC 44 (by decide) dX9_moves_31 ?_
    refine V_iast hC _ rfl 1 rfl hw.1 dX9_moves_44 (fun f5 ef5 => ?_)
    have hw := hw.2
    have hw := hw f5 ef5
    refine V_ws [(h0, .inr (8, [.ref h1, .ref h2, .int n_saved, .ref h3, .long n_hash])), (h1, .inl (E.2.1, 404, .inl f5)), (h2, .inl (E.2.1, 1212, .inl a_past)), (h3, .inl (E.2.1, 9, .inl a_errors))] rfl ?_
    refine V_aload_n hC 1 rfl rfl dX9_moves_45 ?_
    refine V_get hC inX9 rfl 0 (by decide) wd_611 0 rfl rfl dX9_moves_46 ?_
    refine V_bipush hC 6 dX9_moves_49 (by decide) ?_
    refine V_iload_n hC 0 rfl rfl dX9_moves_51 ?_
    refine V_iconst hC 1 dX9_moves_52 (by decide) ?_
    refine V_iadd hC dX9_moves_53 ?_
    refine V_bipush hC 16 dX9_moves_54 (by decide) ?_
    refine V_irem hC (by decide) dX9_moves_56 ?_
    refine V_iast hC 6 (by decide) 1 rfl (by unfold vp_in; decide) dX9_moves_57 (fun f6 ef6 => ?_)
    have hw := hw f6 ef6
    refine V_ws [(h0, .inr (8, [.ref h1, .ref h2, .int n_saved, .ref h3, .long n_hash])), (h1, .inl (E.2.1, 404, .inl f6)), (h2, .inl (E.2.1, 1212, .inl a_past)), (h3, .inl (E.2.1, 9, .inl a_errors))] rfl ?_
    refine V_aload_n hC 1 rfl rfl dX9_moves_58 ?_
    refine V_get hC inX9 rfl 0 (by decide) wd_611 0 rfl rfl dX9_moves_59 ?_
    refine V_bipush hC 7 dX9_moves_62 (by decide) ?_
    refine V_iconst hC 0 dX9_moves_64 (by decide) ?_
    refine V_iast hC 7 (by decide) 1 rfl (by unfold vp_in; decide) dX9_moves_65 (fun f7 ef7 => ?_)
    have hw := hw f7 ef7
    refine V_ws [(h0, .inr (8, [.ref h1, .ref h2, .int n_saved, .ref h3, .long n_hash])), (h1, .inl (E.2.1, 404, .inl f7)), (h2, .inl (E.2.1, 1212, .inl a_past)), (h3, .inl (E.2.1, 9, .inl a_errors))] rfl ?_
    exact V_vret hC hr ⟨f7, rfl, rfl, hw⟩ dX9_moves_66
abbrev po_X9_takes (E : EN) (h0 : Nat) (h1 : Nat) (h2 : Nat) (h3 : Nat) (a_past : Nat → Int32) (n_saved : Int32) (a_errors : Nat → Int32) (n_hash : Int64) (K : Int32 → (Nat → Int32) → Prop) : Option Value → va_W → Prop := fun v ws' => ∃ (r0 : Int32) (a_now : Nat → Int32), v = some (.int r0) ∧ ws' = [(h0, .inr (8, [.ref h1, .ref h2, .int n_saved, .ref h3, .long n_hash])), (h1, .inl (E.2.1, 404, .inl a_now)), (h2, .inl (E.2.1, 1212, .inl a_past)), (h3, .inl (E.2.1, 9, .inl a_errors))] ∧ K r0 a_now
def wpl_X9_takes_30 (a_past : Nat → Int32) (n_saved : Int32) (a_errors : Nat → Int32) (n_hash : Int64) (K : Int32 → (Nat → Int32) → Prop) : Nat → Int32 → Int32 → Int32 → (Nat → Int32) → Prop
  | 0, _, _, _, _ => False
  | n9 + 1, x1, x2, x3, a_now => (vp_in (228 + x1) 404 ∧ (((a_now (Int32.toNatClampNeg (228 + x1))) ≤ x3 → (vp_in (372 + x1) 404 ∧ (vp_in (372 + x1) 404 ∧ (∀ f3 : Nat → Int32, f3 = upd a_now (Int32.toNatClampNeg (372 + x1)) ((a_now (Int32.toNatClampNeg (372 + x1))) - x2) → (vp_in (388 + x1) 404 ∧ (vp_in (388 + x1) 404 ∧ (∀ f4 : Nat → Int32, f4 = upd f3 (Int32.toNatClampNeg (388 + x1)) ((f3 (Int32.toNatClampNeg (388 + x1))) + x2) → K x2 f4))))))) ∧ (¬ ((a_now (Int32.toNatClampNeg (228 + x1))) ≤ x3) → (vp_in (((244 + (8 * x1)) + x3) + 1) 404 ∧ (vp_in ((244 + (8 * x1)) + x3) 404 ∧ (∀ f5 : Nat → Int32, f5 = upd a_now (Int32.toNatClampNeg ((244 + (8 * x1)) + x3)) (a_now (Int32.toNatClampNeg (((244 + (8 * x1)) + x3) + 1))) → wpl_X9_takes_30 a_past n_saved a_errors n_hash K n9 x1 x2 (x3 + 1) f5))))))
set_option maxRecDepth 100000 in
set_option maxHeartbeats 4000000 in
theorem bl_X9_takes_30 {p : Program} {l : Launch} {e : Env} {s : State} {m : MethodId} {args : Array Value} {below : List Frame} {meth : Method} {c : Code} {E : EN} {A : Nat → Prop} (hC : Cx p s m args meth c E A cX9_takes 4 "CookieServerModel") (hr : meth.sig.returnType = some .int) (h0 : Nat) (h1 : Nat) (h2 : Nat) (h3 : Nat) (a_past : Nat → Int32) (n_saved : Int32) (a_errors : Nat → Int32) (n_hash : Int64) (K : Int32 → (Nat → Int32) → Prop) : ∀ (n8 : Nat) (x1 : Int32) (x2 : Int32) (x3 : Int32) (a_now : Nat → Int32), wpl_X9_takes_30 a_past n_saved a_errors n_hash K n8 x1 x2 x3 a_now → V p l e { frames := 0, cells := 0, slots := 0, locals := 0 } s m args below meth c E A 4 0 0 (MQ below (QP E (po_X9_takes E h0 h1 h2 h3 a_past n_saved a_errors n_hash K) A) args s 0 0 A) 30 [(0, .ref h0), (1, .int x1), (2, .int x2), (3, .int x3)] [] [(h0, .inr (8, [.ref h1, .ref h2, .int n_saved, .ref h3, .long n_hash])), (h1, .inl (E.2.1, 404, .inl a_now)), (h2, .inl (E.2.1, 1212, .inl a_past)), (h3, .inl (E.2.1, 9, .inl a_errors))] := by
  intro n8
  induction n8 with
  | zero => intro x1 x2 x3 a_now hw; rw [wpl_X9_takes_30] at hw; exact hw.elim
  | succ n9 ih =>
    intro x1 x2 x3 a_now hw
    rw [wpl_X9_takes_30] at hw
    refine V_iload_n hC 3 rfl rfl dX9_takes_30 ?_
    refine V_aload_n hC 0 rfl rfl dX9_takes_31 ?_
    refine V_get hC inX9 rfl 0 (by decide) wd_611 0 rfl rfl dX9_takes_32 ?_
    refine V_sipush hC 228 dX9_takes_35 (by decide) ?_
    refine V_iload_n hC 1 rfl rfl dX9_takes_38 ?_
    refine V_iadd hC dX9_takes_39 ?_
    refine V_iald hC _ rfl 1 rfl hw.1 dX9_takes_40 ?_
    have hw := hw.2
    refine V_icmp_ge hC 82 (by decide) dX9_takes_41 (fun c2 => ?_) (fun c2 => ?_)
    · have hw := hw.1 c2
      refine V_aload_n hC 0 rfl rfl dX9_takes_82 ?_
      refine V_get hC inX9 rfl 0 (by decide) wd_611 0 rfl rfl dX9_takes_83 ?_
      refine V_sipush hC 372 dX9_takes_86 (by decide) ?_
      refine V_iload_n hC 1 rfl rfl dX9_takes_89 ?_
      refine V_iadd hC dX9_takes_90 ?_
      refine V_dup2 hC rfl rfl dX9_takes_91 ?_
      refine V_iald hC _ rfl 1 rfl hw.1 dX9_takes_92 ?_
      have hw := hw.2
      refine V_iload_n hC 2 rfl rfl dX9_takes_93 ?_
      refine V_isub hC dX9_takes_94 ?_
      refine V_iast hC _ rfl 1 rfl hw.1 dX9_takes_95 (fun f3 ef3 => ?_)
      have hw := hw.2
      have hw := hw f3 ef3
      refine V_ws [(h0, .inr (8, [.ref h1, .ref h2, .int n_saved, .ref h3, .long n_hash])), (h1, .inl (E.2.1, 404, .inl f3)), (h2, .inl (E.2.1, 1212, .inl a_past)), (h3, .inl (E.2.1, 9, .inl a_errors))] rfl ?_
      refine V_aload_n hC 0 rfl rfl dX9_takes_96 ?_
      refine V_get hC inX9 rfl 0 (by decide) wd_611 0 rfl rfl dX9_takes_97 ?_
      refine V_sipush hC 388 dX9_takes_100 (by decide) ?_
      refine V_iload_n hC 1 rfl rfl dX9_takes_103 ?_
      refine V_iadd hC dX9_takes_104 ?_
      refine V_dup2 hC rfl rfl dX9_takes_105 ?_
      refine V_iald hC _ rfl 1 rfl hw.1 dX9_takes_106 ?_
      have hw := hw.2
      refine V_iload_n hC 2 rfl rfl dX9_takes_107 ?_
      refine V_iadd hC dX9_takes_108 ?_
      refine V_iast hC _ rfl 1 rfl hw.1 dX9_takes_109 (fun f4 ef4 => ?_)
      have hw := hw.2
      have hw := hw f4 ef4
      refine V_ws [(h0, .inr (8, [.ref h1, .ref h2, .int n_saved, .ref h3, .long n_hash])), (h1, .inl (E.2.1, 404, .inl f4)), (h2, .inl (E.2.1, 1212, .inl a_past)), (h3, .inl (E.2.1, 9, .inl a_errors))] rfl ?_
      refine V_iload_n hC 2 rfl rfl dX9_takes_110 ?_
      exact V_iret hC hr ⟨x2, f4, rfl, rfl, hw⟩ dX9_takes_111
    · have hw := hw.2 c2
      refine V_aload_n hC 0 rfl rfl dX9_takes_44 ?_
      refine V_get hC inX9 rfl 0 (by decide) wd_611 0 rfl rfl dX9_takes_45 ?_
      refine V_sipush hC 244 dX9_takes_48 (by decide) ?_
      refine V_bipush hC 8 dX9_takes_51 (by decide) ?_
      refine V_iload_n hC 1 rfl rfl dX9_takes_53 ?_
      refine V_imul hC dX9_takes_54 ?_
      refine V_iadd hC dX9_takes_55 ?_
      refine V_iload_n hC 3 rfl rfl dX9_takes_56 ?_
      refine V_iadd hC dX9_takes_57 ?_
      refine V_aload_n hC 0 rfl rfl dX9_takes_58 ?_
      refine V_get hC inX9 rfl 0 (by decide) wd_611 0 rfl rfl dX9_takes_59 ?_
      refine V_sipush hC 244 dX9_takes_62 (by decide) ?_
      refine V_bipush hC 8 dX9_takes_65 (by decide) ?_
      refine V_iload_n hC 1 rfl rfl dX9_takes_67 ?_
      refine V_imul hC dX9_takes_68 ?_
      refine V_iadd hC dX9_takes_69 ?_
      refine V_iload_n hC 3 rfl rfl dX9_takes_70 ?_
      refine V_iadd hC dX9_takes_71 ?_
      refine V_iconst hC 1 dX9_takes_72 (by decide) ?_
      refine V_iadd hC dX9_takes_73 ?_
      refine V_iald hC _ rfl 1 rfl hw.1 dX9_takes_74 ?_
      have hw := hw.2
      refine V_iast hC _ rfl 1 rfl hw.1 dX9_takes_75 (fun f5 ef5 => ?_)
      have hw := hw.2
      have hw := hw f5 ef5
      refine V_ws [(h0, .inr (8, [.ref h1, .ref h2, .int n_saved, .ref h3, .long n_hash])), (h1, .inl (E.2.1, 404, .inl f5)), (h2, .inl (E.2.1, 1212, .inl a_past)), (h3, .inl (E.2.1, 9, .inl a_errors))] rfl ?_
      refine V_iinc hC (x3 + 1) 3 [(3, .int (x3 + 1)), (0, .ref h0), (1, .int x1), (2, .int x2)] rfl (congrArg (fun z => x3 + z) (by decide : Int32.ofInt (1) = (1 : Int32))) (by decide) rfl dX9_takes_76 ?_
      refine V_goto hC 30 (by decide) dX9_takes_79 ?_
      refine V_cast [(0, .ref h0), (1, .int x1), (2, .int x2), (3, .int (x3 + 1))] [] [(h0, .inr (8, [.ref h1, .ref h2, .int n_saved, .ref h3, .long n_hash])), (h1, .inl (E.2.1, 404, .inl f5)), (h2, .inl (E.2.1, 1212, .inl a_past)), (h3, .inl (E.2.1, 9, .inl a_errors))] [1, 2, 3, 0] [0, 1, 2, 3] rfl rfl rfl rfl ?_
      exact ih x1 x2 (x3 + 1) f5 hw
def wp_X9_takes (a_now : Nat → Int32) (a_past : Nat → Int32) (n_saved : Int32) (a_errors : Nat → Int32) (n_hash : Int64) (p1 : Int32) (K : Int32 → (Nat → Int32) → Prop) : Prop := (vp_in (244 + (8 * p1)) 404 ∧ (vp_in (228 + p1) 404 ∧ (vp_in (228 + p1) 404 ∧ (∀ f1 : Nat → Int32, f1 = upd a_now (Int32.toNatClampNeg (228 + p1)) ((a_now (Int32.toNatClampNeg (228 + p1))) - 1) → (∃ n8 : Nat, wpl_X9_takes_30 a_past n_saved a_errors n_hash K n8 p1 (a_now (Int32.toNatClampNeg (244 + (8 * p1)))) 0 f1)))))
set_option maxRecDepth 100000 in
set_option maxHeartbeats 4000000 in
theorem ct_X9_takes (l : Launch) (E : EN) (h0 : Nat) (h1 : Nat) (h2 : Nat) (h3 : Nat) (a_now : Nat → Int32) (a_past : Nat → Int32) (n_saved : Int32) (a_errors : Nat → Int32) (n_hash : Int64) (p1 : Int32) (K : Int32 → (Nat → Int32) → Prop) (hw : wp_X9_takes a_now a_past n_saved a_errors n_hash p1 K) : Con l yX9_takes cX9_takes 4 (some .int) { frames := 0, cells := 0, slots := 0, locals := 0 } E [.ref h0, .int p1] [(h0, .inr (8, [.ref h1, .ref h2, .int n_saved, .ref h3, .long n_hash])), (h1, .inl (E.2.1, 404, .inl a_now)), (h2, .inl (E.2.1, 1212, .inl a_past)), (h3, .inl (E.2.1, 9, .inl a_errors))] (po_X9_takes E h0 h1 h2 h3 a_past n_saved a_errors n_hash K) := by
  refine Con.mk (by decide +kernel) (Nat.le_of_ble_eq_true rfl) ?_
  intro p e s m below meth c A hC hr hin
  have hC : Cx p s m _ meth c E A cX9_takes 4 "CookieServerModel" := hC
  rw [wp_X9_takes] at hw
  refine V_cast [(0, .ref h0), (1, .int p1)] [] [(h0, .inr (8, [.ref h1, .ref h2, .int n_saved, .ref h3, .long n_hash])), (h1, .inl (E.2.1, 404, .inl a_now)), (h2, .inl (E.2.1, 1212, .inl a_past)), (h3, .inl (E.2.1, 9, .inl a_errors))] [0, 1] [0, 1, 2, 3] rfl rfl rfl rfl ?_
  refine V_aload_n hC 0 rfl rfl dX9_takes_0 ?_
  refine V_get hC inX9 rfl 0 (by decide) wd_611 0 rfl rfl dX9_takes_1 ?_
  refine V_sipush hC 244 dX9_takes_4 (by decide) ?_
  refine V_bipush hC 8 dX9_takes_7 (by decide) ?_
  refine V_iload_n hC 1 rfl rfl dX9_takes_9 ?_
  refine V_imul hC dX9_takes_10 ?_
  refine V_iadd hC dX9_takes_11 ?_
  refine V_iald hC _ rfl 1 rfl hw.1 dX9_takes_12 ?_
  have hw := hw.2
  refine V_istore_n hC [(2, .int (a_now (Int32.toNatClampNeg (244 + (8 * p1))))), (0, .ref h0), (1, .int p1)] rfl (by decide) rfl dX9_takes_13 ?_
  refine V_aload_n hC 1 rfl rfl dX9_takes_14 ?_
  refine V_get hC inX9 rfl 0 (by decide) wd_611 0 rfl rfl dX9_takes_15 ?_
  refine V_sipush hC 228 dX9_takes_18 (by decide) ?_
  refine V_iload_n hC 2 rfl rfl dX9_takes_21 ?_
  refine V_iadd hC dX9_takes_22 ?_
  refine V_dup2 hC rfl rfl dX9_takes_23 ?_
  refine V_iald hC _ rfl 1 rfl hw.1 dX9_takes_24 ?_
  have hw := hw.2
  refine V_iconst hC 1 dX9_takes_25 (by decide) ?_
  refine V_isub hC dX9_takes_26 ?_
  refine V_iast hC _ rfl 1 rfl hw.1 dX9_takes_27 (fun f1 ef1 => ?_)
  have hw := hw.2
  have hw := hw f1 ef1
  refine V_ws [(h0, .inr (8, [.ref h1, .ref h2, .int n_saved, .ref h3, .long n_hash])), (h1, .inl (E.2.1, 404, .inl f1)), (h2, .inl (E.2.1, 1212, .inl a_past)), (h3, .inl (E.2.1, 9, .inl a_errors))] rfl ?_
  refine V_iconst hC 0 dX9_takes_28 (by decide) ?_
  refine V_istore_n hC [(3, .int 0), (2, .int (a_now (Int32.toNatClampNeg (244 + (8 * p1))))), (0, .ref h0), (1, .int p1)] rfl (by decide) rfl dX9_takes_29 ?_
  refine V_cast [(0, .ref h0), (1, .int p1), (2, .int (a_now (Int32.toNatClampNeg (244 + (8 * p1))))), (3, .int 0)] [] [(h0, .inr (8, [.ref h1, .ref h2, .int n_saved, .ref h3, .long n_hash])), (h1, .inl (E.2.1, 404, .inl f1)), (h2, .inl (E.2.1, 1212, .inl a_past)), (h3, .inl (E.2.1, 9, .inl a_errors))] [2, 3, 1, 0] [0, 1, 2, 3] rfl rfl rfl rfl ?_
  obtain ⟨n8, hw⟩ := hw
  exact bl_X9_takes_30 hC hr h0 h1 h2 h3 a_past n_saved a_errors n_hash K n8 p1 (a_now (Int32.toNatClampNeg (244 + (8 * p1)))) 0 f1 hw
abbrev po_X9_serve (E : EN) (h0 : Nat) (h1 : Nat) (h2 : Nat) (h3 : Nat) (n_hash : Int64) (K : Int32 → (Nat → Int32) → (Nat → Int32) → Int32 → (Nat → Int32) → Prop) : Option Value → va_W → Prop := fun v ws' => ∃ (r0 : Int32) (a_now : Nat → Int32) (a_past : Nat → Int32) (n_saved : Int32) (a_errors : Nat → Int32), v = some (.int r0) ∧ ws' = [(h0, .inr (8, [.ref h1, .ref h2, .int n_saved, .ref h3, .long n_hash])), (h1, .inl (E.2.1, 404, .inl a_now)), (h2, .inl (E.2.1, 1212, .inl a_past)), (h3, .inl (E.2.1, 9, .inl a_errors))] ∧ K r0 a_now a_past n_saved a_errors
def wpl_X9_serve_29 (n_hash : Int64) (K : Int32 → (Nat → Int32) → (Nat → Int32) → Int32 → (Nat → Int32) → Prop) : Nat → Int32 → Int32 → Int32 → Int32 → (Nat → Int32) → (Nat → Int32) → Int32 → (Nat → Int32) → Prop
  | 0, _, _, _, _, _, _, _, _ => False
  | n9 + 1, x1, x2, x3, x4, a_now, a_past, n_saved, a_errors => ((¬ x4 = 0 → K x3 a_now a_past n_saved a_errors) ∧ (x4 = 0 → (wp_X9_waiting a_now a_past n_saved a_errors n_hash (fun (r6 : Int32) => ((r6 ≤ 0 → K x3 a_now a_past n_saved a_errors) ∧ (¬ (r6 ≤ 0) → (vp_in (244 + (8 * (a_now 6))) 404 ∧ (vp_in (228 + (a_now 6)) 404 ∧ (((a_now (Int32.toNatClampNeg (228 + (a_now 6)))) ≤ 0 → (vp_in (228 + (a_now 6)) 404 ∧ (((a_now (Int32.toNatClampNeg (228 + (a_now 6)))) = 0 → (wp_X9_moves a_now a_past n_saved a_errors n_hash (fun (g10 : Nat → Int32) => wpl_X9_serve_29 n_hash K n9 x1 x2 x3 x4 g10 a_past n_saved a_errors))) ∧ (¬ ((a_now (Int32.toNatClampNeg (228 + (a_now 6)))) = 0) → (vp_in (372 + (a_now 6)) 404 ∧ (((a_now (Int32.toNatClampNeg (244 + (8 * (a_now 6))))) ≤ (a_now (Int32.toNatClampNeg (372 + (a_now 6)))) → (((a_now (Int32.toNatClampNeg (244 + (8 * (a_now 6))))) ≤ x2 → (wp_X9_takes a_now a_past n_saved a_errors n_hash (a_now 6) (fun (r13 : Int32) (g14 : Nat → Int32) => (vp_in (228 + (a_now 6)) 404 ∧ ((¬ (g14 (Int32.toNatClampNeg (228 + (a_now 6)))) = 0 → wpl_X9_serve_29 n_hash K n9 x1 (x2 - r13) (x3 + 1) x4 g14 a_past n_saved a_errors) ∧ ((g14 (Int32.toNatClampNeg (228 + (a_now 6)))) = 0 → (wp_X9_moves g14 a_past n_saved a_errors n_hash (fun (g16 : Nat → Int32) => wpl_X9_serve_29 n_hash K n9 x1 (x2 - r13) (x3 + 1) x4 g16 a_past n_saved a_errors)))))))) ∧ (¬ ((a_now (Int32.toNatClampNeg (244 + (8 * (a_now 6))))) ≤ x2) → wpl_X9_serve_29 n_hash K n9 x1 x2 x3 1 a_now a_past n_saved a_errors))) ∧ (¬ ((a_now (Int32.toNatClampNeg (244 + (8 * (a_now 6))))) ≤ (a_now (Int32.toNatClampNeg (372 + (a_now 6))))) → (wp_X9_moves a_now a_past n_saved a_errors n_hash (fun (g17 : Nat → Int32) => wpl_X9_serve_29 n_hash K n9 x1 x2 x3 x4 g17 a_past n_saved a_errors))))))))) ∧ (¬ ((a_now (Int32.toNatClampNeg (228 + (a_now 6)))) ≤ 0) → ((¬ (a_now 7) = 0 → (vp_in (228 + (a_now 6)) 404 ∧ (((a_now (Int32.toNatClampNeg (228 + (a_now 6)))) = 0 → (wp_X9_moves a_now a_past n_saved a_errors n_hash (fun (g20 : Nat → Int32) => wpl_X9_serve_29 n_hash K n9 x1 x2 x3 x4 g20 a_past n_saved a_errors))) ∧ (¬ ((a_now (Int32.toNatClampNeg (228 + (a_now 6)))) = 0) → (vp_in (372 + (a_now 6)) 404 ∧ (((a_now (Int32.toNatClampNeg (244 + (8 * (a_now 6))))) ≤ (a_now (Int32.toNatClampNeg (372 + (a_now 6)))) → (((a_now (Int32.toNatClampNeg (244 + (8 * (a_now 6))))) ≤ x2 → (wp_X9_takes a_now a_past n_saved a_errors n_hash (a_now 6) (fun (r23 : Int32) (g24 : Nat → Int32) => (vp_in (228 + (a_now 6)) 404 ∧ ((¬ (g24 (Int32.toNatClampNeg (228 + (a_now 6)))) = 0 → wpl_X9_serve_29 n_hash K n9 x1 (x2 - r23) (x3 + 1) x4 g24 a_past n_saved a_errors) ∧ ((g24 (Int32.toNatClampNeg (228 + (a_now 6)))) = 0 → (wp_X9_moves g24 a_past n_saved a_errors n_hash (fun (g26 : Nat → Int32) => wpl_X9_serve_29 n_hash K n9 x1 (x2 - r23) (x3 + 1) x4 g26 a_past n_saved a_errors)))))))) ∧ (¬ ((a_now (Int32.toNatClampNeg (244 + (8 * (a_now 6))))) ≤ x2) → wpl_X9_serve_29 n_hash K n9 x1 x2 x3 1 a_now a_past n_saved a_errors))) ∧ (¬ ((a_now (Int32.toNatClampNeg (244 + (8 * (a_now 6))))) ≤ (a_now (Int32.toNatClampNeg (372 + (a_now 6))))) → (wp_X9_moves a_now a_past n_saved a_errors n_hash (fun (g27 : Nat → Int32) => wpl_X9_serve_29 n_hash K n9 x1 x2 x3 x4 g27 a_past n_saved a_errors))))))))) ∧ ((a_now 7) = 0 → (vp_in (372 + (a_now 6)) 404 ∧ (vp_in (372 + (a_now 6)) 404 ∧ (∀ f28 : Nat → Int32, f28 = upd a_now (Int32.toNatClampNeg (372 + (a_now 6))) ((a_now (Int32.toNatClampNeg (372 + (a_now 6)))) + 4) → (∀ f29 : Nat → Int32, f29 = upd f28 7 1 → (vp_in (228 + (a_now 6)) 404 ∧ (((f29 (Int32.toNatClampNeg (228 + (a_now 6)))) = 0 → (wp_X9_moves f29 a_past n_saved a_errors n_hash (fun (g31 : Nat → Int32) => wpl_X9_serve_29 n_hash K n9 x1 x2 x3 x4 g31 a_past n_saved a_errors))) ∧ (¬ ((f29 (Int32.toNatClampNeg (228 + (a_now 6)))) = 0) → (vp_in (372 + (a_now 6)) 404 ∧ (((a_now (Int32.toNatClampNeg (244 + (8 * (a_now 6))))) ≤ (f29 (Int32.toNatClampNeg (372 + (a_now 6)))) → (((a_now (Int32.toNatClampNeg (244 + (8 * (a_now 6))))) ≤ x2 → (wp_X9_takes f29 a_past n_saved a_errors n_hash (a_now 6) (fun (r34 : Int32) (g35 : Nat → Int32) => (vp_in (228 + (a_now 6)) 404 ∧ ((¬ (g35 (Int32.toNatClampNeg (228 + (a_now 6)))) = 0 → wpl_X9_serve_29 n_hash K n9 x1 (x2 - r34) (x3 + 1) x4 g35 a_past n_saved a_errors) ∧ ((g35 (Int32.toNatClampNeg (228 + (a_now 6)))) = 0 → (wp_X9_moves g35 a_past n_saved a_errors n_hash (fun (g37 : Nat → Int32) => wpl_X9_serve_29 n_hash K n9 x1 (x2 - r34) (x3 + 1) x4 g37 a_past n_saved a_errors)))))))) ∧ (¬ ((a_now (Int32.toNatClampNeg (244 + (8 * (a_now 6))))) ≤ x2) → wpl_X9_serve_29 n_hash K n9 x1 x2 x3 1 f29 a_past n_saved a_errors))) ∧ (¬ ((a_now (Int32.toNatClampNeg (244 + (8 * (a_now 6))))) ≤ (f29 (Int32.toNatClampNeg (372 + (a_now 6))))) → (wp_X9_moves f29 a_past n_saved a_errors n_hash (fun (g38 : Nat → Int32) => wpl_X9_serve_29 n_hash K n9 x1 x2 x3 x4 g38 a_past n_saved a_errors))))))))))))))))))))))))
set_option maxRecDepth 100000 in
set_option maxHeartbeats 4000000 in
theorem bl_X9_serve_29 {p : Program} {l : Launch} {e : Env} {s : State} {m : MethodId} {args : Array Value} {below : List Frame} {meth : Method} {c : Code} {E : EN} {A : Nat → Prop} (hC : Cx p s m args meth c E A cX9_serve 7 "CookieServerModel") (hr : meth.sig.returnType = some .int) (h0 : Nat) (h1 : Nat) (h2 : Nat) (h3 : Nat) (n_hash : Int64) (K : Int32 → (Nat → Int32) → (Nat → Int32) → Int32 → (Nat → Int32) → Prop) : ∀ (n8 : Nat) (x1 : Int32) (x2 : Int32) (x3 : Int32) (x4 : Int32) (a_now : Nat → Int32) (a_past : Nat → Int32) (n_saved : Int32) (a_errors : Nat → Int32), wpl_X9_serve_29 n_hash K n8 x1 x2 x3 x4 a_now a_past n_saved a_errors → V p l e { frames := 1, cells := 0, slots := 0, locals := 23 } s m args below meth c E A 7 0 0 (MQ below (QP E (po_X9_serve E h0 h1 h2 h3 n_hash K) A) args s 0 0 A) 29 [(0, .ref h0), (1, .int x1), (2, .int x2), (3, .int x3), (4, .int x4)] [] [(h0, .inr (8, [.ref h1, .ref h2, .int n_saved, .ref h3, .long n_hash])), (h1, .inl (E.2.1, 404, .inl a_now)), (h2, .inl (E.2.1, 1212, .inl a_past)), (h3, .inl (E.2.1, 9, .inl a_errors))] := by
  intro n8
  induction n8 with
  | zero => intro x1 x2 x3 x4 a_now a_past n_saved a_errors hw; rw [wpl_X9_serve_29] at hw; exact hw.elim
  | succ n9 ih =>
    intro x1 x2 x3 x4 a_now a_past n_saved a_errors hw
    rw [wpl_X9_serve_29] at hw
    refine V_iload hC 4 rfl dX9_serve_29 ?_
    refine V_if_ne hC 195 (by decide) dX9_serve_31 (fun c5 => ?_) (fun c5 => ?_)
    · have hw := hw.1 c5
      refine V_iload_n hC 3 rfl rfl dX9_serve_195 ?_
      exact V_iret hC hr ⟨x3, a_now, a_past, n_saved, a_errors, rfl, rfl, hw⟩ dX9_serve_196
    · have hw := hw.2 c5
      refine V_aload_n hC 0 rfl rfl dX9_serve_34 ?_
      refine V_callV hC (wr := []) 0 [] [] (ct_X9_waiting l E h0 h1 h2 h3 a_now a_past n_saved a_errors n_hash _ hw) wd_807 wd_40 wd_804 wd_806 wd_26 (by decide +kernel) rfl ⟨Nat.le_of_ble_eq_true rfl, Nat.le_of_ble_eq_true rfl⟩ [0, 1, 2, 3] [] rfl rfl rfl rfl (by decide) rfl rfl rfl (Nat.le_of_ble_eq_true rfl) ⟨Nat.le_of_ble_eq_true rfl, Nat.le_of_ble_eq_true rfl⟩ dX9_serve_35 (fun v ws' hp => ?_)
      obtain ⟨r6, rfl, rfl, hw⟩ := hp
      refine V_cast [(0, .ref h0), (1, .int x1), (2, .int x2), (3, .int x3), (4, .int x4)] [.int r6] [(h0, .inr (8, [.ref h1, .ref h2, .int n_saved, .ref h3, .long n_hash])), (h1, .inl (E.2.1, 404, .inl a_now)), (h2, .inl (E.2.1, 1212, .inl a_past)), (h3, .inl (E.2.1, 9, .inl a_errors))] [0, 1, 2, 3, 4] [0, 1, 2, 3] rfl rfl rfl rfl ?_
      refine V_if_le hC 195 (by decide) dX9_serve_38 (fun c7 => ?_) (fun c7 => ?_)
      · have hw := hw.1 c7
        refine V_iload_n hC 3 rfl rfl dX9_serve_195 ?_
        exact V_iret hC hr ⟨x3, a_now, a_past, n_saved, a_errors, rfl, rfl, hw⟩ dX9_serve_196
      · have hw := hw.2 c7
        refine V_aload_n hC 0 rfl rfl dX9_serve_41 ?_
        refine V_get hC inX9 rfl 0 (by decide) wd_611 0 rfl rfl dX9_serve_42 ?_
        refine V_bipush hC 6 dX9_serve_45 (by decide) ?_
        refine V_iald hC 6 (by decide) 1 rfl (by unfold vp_in; decide) dX9_serve_47 ?_
        refine V_istore hC [(5, .int (a_now 6)), (0, .ref h0), (1, .int x1), (2, .int x2), (3, .int x3), (4, .int x4)] (by decide) rfl dX9_serve_48 ?_
        refine V_aload_n hC 1 rfl rfl dX9_serve_50 ?_
        refine V_get hC inX9 rfl 0 (by decide) wd_611 0 rfl rfl dX9_serve_51 ?_
        refine V_sipush hC 244 dX9_serve_54 (by decide) ?_
        refine V_bipush hC 8 dX9_serve_57 (by decide) ?_
        refine V_iload hC 0 rfl dX9_serve_59 ?_
        refine V_imul hC dX9_serve_61 ?_
        refine V_iadd hC dX9_serve_62 ?_
        refine V_iald hC _ rfl 1 rfl hw.1 dX9_serve_63 ?_
        have hw := hw.2
        refine V_istore hC [(6, .int (a_now (Int32.toNatClampNeg (244 + (8 * (a_now 6)))))), (5, .int (a_now 6)), (0, .ref h0), (1, .int x1), (2, .int x2), (3, .int x3), (4, .int x4)] (by decide) rfl dX9_serve_64 ?_
        refine V_aload_n hC 2 rfl rfl dX9_serve_66 ?_
        refine V_get hC inX9 rfl 0 (by decide) wd_611 0 rfl rfl dX9_serve_67 ?_
        refine V_sipush hC 228 dX9_serve_70 (by decide) ?_
        refine V_iload hC 1 rfl dX9_serve_73 ?_
        refine V_iadd hC dX9_serve_75 ?_
        refine V_iald hC _ rfl 1 rfl hw.1 dX9_serve_76 ?_
        have hw := hw.2
        refine V_if_le hC 113 (by decide) dX9_serve_77 (fun c8 => ?_) (fun c8 => ?_)
        · have hw := hw.1 c8
          refine V_aload_n hC 2 rfl rfl dX9_serve_113 ?_
          refine V_get hC inX9 rfl 0 (by decide) wd_611 0 rfl rfl dX9_serve_114 ?_
          refine V_sipush hC 228 dX9_serve_117 (by decide) ?_
          refine V_iload hC 1 rfl dX9_serve_120 ?_
          refine V_iadd hC dX9_serve_122 ?_
          refine V_iald hC _ rfl 1 rfl hw.1 dX9_serve_123 ?_
          have hw := hw.2
          refine V_if_eq hC 143 (by decide) dX9_serve_124 (fun c9 => ?_) (fun c9 => ?_)
          · have hw := hw.1 c9
            refine V_aload_n hC 2 rfl rfl dX9_serve_143 ?_
            refine V_callV hC (wr := []) 0 [] [] (ct_X9_moves l E h0 h1 h2 h3 a_now a_past n_saved a_errors n_hash _ hw) wd_811 wd_40 wd_808 wd_810 wd_27 (by decide +kernel) rfl ⟨Nat.le_of_ble_eq_true rfl, Nat.le_of_ble_eq_true rfl⟩ [0, 1, 2, 3] [] rfl rfl rfl rfl (by decide) rfl rfl rfl (Nat.le_of_ble_eq_true rfl) ⟨Nat.le_of_ble_eq_true rfl, Nat.le_of_ble_eq_true rfl⟩ dX9_serve_144 (fun v ws' hp => ?_)
            obtain ⟨g10, rfl, rfl, hw⟩ := hp
            refine V_cast [(6, .int (a_now (Int32.toNatClampNeg (244 + (8 * (a_now 6)))))), (5, .int (a_now 6)), (0, .ref h0), (1, .int x1), (2, .int x2), (3, .int x3), (4, .int x4)] [] [(h0, .inr (8, [.ref h1, .ref h2, .int n_saved, .ref h3, .long n_hash])), (h1, .inl (E.2.1, 404, .inl g10)), (h2, .inl (E.2.1, 1212, .inl a_past)), (h3, .inl (E.2.1, 9, .inl a_errors))] [0, 1, 2, 3, 4, 5, 6] [0, 1, 2, 3] rfl rfl rfl rfl ?_
            refine V_goto hC 192 (by decide) dX9_serve_147 ?_
            refine V_goto hC 29 (by decide) dX9_serve_192 ?_
            refine V_cast [(0, .ref h0), (1, .int x1), (2, .int x2), (3, .int x3), (4, .int x4)] [] [(h0, .inr (8, [.ref h1, .ref h2, .int n_saved, .ref h3, .long n_hash])), (h1, .inl (E.2.1, 404, .inl g10)), (h2, .inl (E.2.1, 1212, .inl a_past)), (h3, .inl (E.2.1, 9, .inl a_errors))] [2, 3, 4, 5, 6] [0, 1, 2, 3] rfl rfl rfl rfl ?_
            exact ih x1 x2 x3 x4 g10 a_past n_saved a_errors hw
          · have hw := hw.2 c9
            refine V_iload hC 0 rfl dX9_serve_127 ?_
            refine V_aload_n hC 2 rfl rfl dX9_serve_129 ?_
            refine V_get hC inX9 rfl 0 (by decide) wd_611 0 rfl rfl dX9_serve_130 ?_
            refine V_sipush hC 372 dX9_serve_133 (by decide) ?_
            refine V_iload hC 1 rfl dX9_serve_136 ?_
            refine V_iadd hC dX9_serve_138 ?_
            refine V_iald hC _ rfl 1 rfl hw.1 dX9_serve_139 ?_
            have hw := hw.2
            refine V_icmp_le hC 150 (by decide) dX9_serve_140 (fun c11 => ?_) (fun c11 => ?_)
            · have hw := hw.1 c11
              refine V_iload hC 0 rfl dX9_serve_150 ?_
              refine V_iload_n hC 4 rfl rfl dX9_serve_152 ?_
              refine V_icmp_le hC 162 (by decide) dX9_serve_153 (fun c12 => ?_) (fun c12 => ?_)
              · have hw := hw.1 c12
                refine V_iload_n hC 4 rfl rfl dX9_serve_162 ?_
                refine V_aload_n hC 2 rfl rfl dX9_serve_163 ?_
                refine V_iload hC 1 rfl dX9_serve_164 ?_
                refine V_callV hC (wr := []) 1 [.int (a_now 6)] [.int x2] (ct_X9_takes l E h0 h1 h2 h3 a_now a_past n_saved a_errors n_hash (a_now 6) _ hw) wd_815 wd_40 wd_812 wd_814 wd_28 (by decide +kernel) rfl ⟨Nat.le_of_ble_eq_true rfl, Nat.le_of_ble_eq_true rfl⟩ [0, 1, 2, 3] [] rfl rfl rfl rfl (by decide) rfl rfl rfl (Nat.le_of_ble_eq_true rfl) ⟨Nat.le_of_ble_eq_true rfl, Nat.le_of_ble_eq_true rfl⟩ dX9_serve_166 (fun v ws' hp => ?_)
                obtain ⟨r13, g14, rfl, rfl, hw⟩ := hp
                refine V_cast [(6, .int (a_now (Int32.toNatClampNeg (244 + (8 * (a_now 6)))))), (5, .int (a_now 6)), (0, .ref h0), (1, .int x1), (2, .int x2), (3, .int x3), (4, .int x4)] [.int r13, .int x2] [(h0, .inr (8, [.ref h1, .ref h2, .int n_saved, .ref h3, .long n_hash])), (h1, .inl (E.2.1, 404, .inl g14)), (h2, .inl (E.2.1, 1212, .inl a_past)), (h3, .inl (E.2.1, 9, .inl a_errors))] [0, 1, 2, 3, 4, 5, 6] [0, 1, 2, 3] rfl rfl rfl rfl ?_
                refine V_isub hC dX9_serve_169 ?_
                refine V_istore_n hC [(2, .int (x2 - r13)), (6, .int (a_now (Int32.toNatClampNeg (244 + (8 * (a_now 6)))))), (5, .int (a_now 6)), (0, .ref h0), (1, .int x1), (3, .int x3), (4, .int x4)] rfl (by decide) rfl dX9_serve_170 ?_
                refine V_iinc hC (x3 + 1) 5 [(3, .int (x3 + 1)), (2, .int (x2 - r13)), (6, .int (a_now (Int32.toNatClampNeg (244 + (8 * (a_now 6)))))), (5, .int (a_now 6)), (0, .ref h0), (1, .int x1), (4, .int x4)] rfl (congrArg (fun z => x3 + z) (by decide : Int32.ofInt (1) = (1 : Int32))) (by decide) rfl dX9_serve_171 ?_
                refine V_aload_n hC 4 rfl rfl dX9_serve_174 ?_
                refine V_get hC inX9 rfl 0 (by decide) wd_611 0 rfl rfl dX9_serve_175 ?_
                refine V_sipush hC 228 dX9_serve_178 (by decide) ?_
                refine V_iload hC 3 rfl dX9_serve_181 ?_
                refine V_iadd hC dX9_serve_183 ?_
                refine V_iald hC _ rfl 1 rfl hw.1 dX9_serve_184 ?_
                have hw := hw.2
                refine V_if_ne hC 192 (by decide) dX9_serve_185 (fun c15 => ?_) (fun c15 => ?_)
                · have hw := hw.1 c15
                  refine V_goto hC 29 (by decide) dX9_serve_192 ?_
                  refine V_cast [(0, .ref h0), (1, .int x1), (2, .int (x2 - r13)), (3, .int (x3 + 1)), (4, .int x4)] [] [(h0, .inr (8, [.ref h1, .ref h2, .int n_saved, .ref h3, .long n_hash])), (h1, .inl (E.2.1, 404, .inl g14)), (h2, .inl (E.2.1, 1212, .inl a_past)), (h3, .inl (E.2.1, 9, .inl a_errors))] [4, 5, 1, 0, 6] [0, 1, 2, 3] rfl rfl rfl rfl ?_
                  exact ih x1 (x2 - r13) (x3 + 1) x4 g14 a_past n_saved a_errors hw
                · have hw := hw.2 c15
                  refine V_aload_n hC 4 rfl rfl dX9_serve_188 ?_
                  refine V_callV hC (wr := []) 0 [] [] (ct_X9_moves l E h0 h1 h2 h3 g14 a_past n_saved a_errors n_hash _ hw) wd_811 wd_40 wd_808 wd_810 wd_27 (by decide +kernel) rfl ⟨Nat.le_of_ble_eq_true rfl, Nat.le_of_ble_eq_true rfl⟩ [0, 1, 2, 3] [] rfl rfl rfl rfl (by decide) rfl rfl rfl (Nat.le_of_ble_eq_true rfl) ⟨Nat.le_of_ble_eq_true rfl, Nat.le_of_ble_eq_true rfl⟩ dX9_serve_189 (fun v ws' hp => ?_)
                  obtain ⟨g16, rfl, rfl, hw⟩ := hp
                  refine V_cast [(3, .int (x3 + 1)), (2, .int (x2 - r13)), (6, .int (a_now (Int32.toNatClampNeg (244 + (8 * (a_now 6)))))), (5, .int (a_now 6)), (0, .ref h0), (1, .int x1), (4, .int x4)] [] [(h0, .inr (8, [.ref h1, .ref h2, .int n_saved, .ref h3, .long n_hash])), (h1, .inl (E.2.1, 404, .inl g16)), (h2, .inl (E.2.1, 1212, .inl a_past)), (h3, .inl (E.2.1, 9, .inl a_errors))] [0, 1, 2, 3, 4, 5, 6] [0, 1, 2, 3] rfl rfl rfl rfl ?_
                  refine V_goto hC 29 (by decide) dX9_serve_192 ?_
                  refine V_cast [(0, .ref h0), (1, .int x1), (2, .int (x2 - r13)), (3, .int (x3 + 1)), (4, .int x4)] [] [(h0, .inr (8, [.ref h1, .ref h2, .int n_saved, .ref h3, .long n_hash])), (h1, .inl (E.2.1, 404, .inl g16)), (h2, .inl (E.2.1, 1212, .inl a_past)), (h3, .inl (E.2.1, 9, .inl a_errors))] [4, 5, 1, 0, 6] [0, 1, 2, 3] rfl rfl rfl rfl ?_
                  exact ih x1 (x2 - r13) (x3 + 1) x4 g16 a_past n_saved a_errors hw
              · have hw := hw.2 c12
                refine V_iconst hC 1 dX9_serve_156 (by decide) ?_
                refine V_istore hC [(4, .int 1), (6, .int (a_now (Int32.toNatClampNeg (244 + (8 * (a_now 6)))))), (5, .int (a_now 6)), (0, .ref h0), (1, .int x1), (2, .int x2), (3, .int x3)] (by decide) rfl dX9_serve_157 ?_
                refine V_goto hC 192 (by decide) dX9_serve_159 ?_
                refine V_goto hC 29 (by decide) dX9_serve_192 ?_
                refine V_cast [(0, .ref h0), (1, .int x1), (2, .int x2), (3, .int x3), (4, .int 1)] [] [(h0, .inr (8, [.ref h1, .ref h2, .int n_saved, .ref h3, .long n_hash])), (h1, .inl (E.2.1, 404, .inl a_now)), (h2, .inl (E.2.1, 1212, .inl a_past)), (h3, .inl (E.2.1, 9, .inl a_errors))] [3, 4, 5, 6, 0] [0, 1, 2, 3] rfl rfl rfl rfl ?_
                exact ih x1 x2 x3 1 a_now a_past n_saved a_errors hw
            · have hw := hw.2 c11
              refine V_aload_n hC 2 rfl rfl dX9_serve_143 ?_
              refine V_callV hC (wr := []) 0 [] [] (ct_X9_moves l E h0 h1 h2 h3 a_now a_past n_saved a_errors n_hash _ hw) wd_811 wd_40 wd_808 wd_810 wd_27 (by decide +kernel) rfl ⟨Nat.le_of_ble_eq_true rfl, Nat.le_of_ble_eq_true rfl⟩ [0, 1, 2, 3] [] rfl rfl rfl rfl (by decide) rfl rfl rfl (Nat.le_of_ble_eq_true rfl) ⟨Nat.le_of_ble_eq_true rfl, Nat.le_of_ble_eq_true rfl⟩ dX9_serve_144 (fun v ws' hp => ?_)
              obtain ⟨g17, rfl, rfl, hw⟩ := hp
              refine V_cast [(6, .int (a_now (Int32.toNatClampNeg (244 + (8 * (a_now 6)))))), (5, .int (a_now 6)), (0, .ref h0), (1, .int x1), (2, .int x2), (3, .int x3), (4, .int x4)] [] [(h0, .inr (8, [.ref h1, .ref h2, .int n_saved, .ref h3, .long n_hash])), (h1, .inl (E.2.1, 404, .inl g17)), (h2, .inl (E.2.1, 1212, .inl a_past)), (h3, .inl (E.2.1, 9, .inl a_errors))] [0, 1, 2, 3, 4, 5, 6] [0, 1, 2, 3] rfl rfl rfl rfl ?_
              refine V_goto hC 192 (by decide) dX9_serve_147 ?_
              refine V_goto hC 29 (by decide) dX9_serve_192 ?_
              refine V_cast [(0, .ref h0), (1, .int x1), (2, .int x2), (3, .int x3), (4, .int x4)] [] [(h0, .inr (8, [.ref h1, .ref h2, .int n_saved, .ref h3, .long n_hash])), (h1, .inl (E.2.1, 404, .inl g17)), (h2, .inl (E.2.1, 1212, .inl a_past)), (h3, .inl (E.2.1, 9, .inl a_errors))] [2, 3, 4, 5, 6] [0, 1, 2, 3] rfl rfl rfl rfl ?_
              exact ih x1 x2 x3 x4 g17 a_past n_saved a_errors hw
        · have hw := hw.2 c8
          refine V_aload_n hC 2 rfl rfl dX9_serve_80 ?_
          refine V_get hC inX9 rfl 0 (by decide) wd_611 0 rfl rfl dX9_serve_81 ?_
          refine V_bipush hC 7 dX9_serve_84 (by decide) ?_
          refine V_iald hC 7 (by decide) 1 rfl (by unfold vp_in; decide) dX9_serve_86 ?_
          refine V_if_ne hC 113 (by decide) dX9_serve_87 (fun c18 => ?_) (fun c18 => ?_)
          · have hw := hw.1 c18
            refine V_aload_n hC 2 rfl rfl dX9_serve_113 ?_
            refine V_get hC inX9 rfl 0 (by decide) wd_611 0 rfl rfl dX9_serve_114 ?_
            refine V_sipush hC 228 dX9_serve_117 (by decide) ?_
            refine V_iload hC 1 rfl dX9_serve_120 ?_
            refine V_iadd hC dX9_serve_122 ?_
            refine V_iald hC _ rfl 1 rfl hw.1 dX9_serve_123 ?_
            have hw := hw.2
            refine V_if_eq hC 143 (by decide) dX9_serve_124 (fun c19 => ?_) (fun c19 => ?_)
            · have hw := hw.1 c19
              refine V_aload_n hC 2 rfl rfl dX9_serve_143 ?_
              refine V_callV hC (wr := []) 0 [] [] (ct_X9_moves l E h0 h1 h2 h3 a_now a_past n_saved a_errors n_hash _ hw) wd_811 wd_40 wd_808 wd_810 wd_27 (by decide +kernel) rfl ⟨Nat.le_of_ble_eq_true rfl, Nat.le_of_ble_eq_true rfl⟩ [0, 1, 2, 3] [] rfl rfl rfl rfl (by decide) rfl rfl rfl (Nat.le_of_ble_eq_true rfl) ⟨Nat.le_of_ble_eq_true rfl, Nat.le_of_ble_eq_true rfl⟩ dX9_serve_144 (fun v ws' hp => ?_)
              obtain ⟨g20, rfl, rfl, hw⟩ := hp
              refine V_cast [(6, .int (a_now (Int32.toNatClampNeg (244 + (8 * (a_now 6)))))), (5, .int (a_now 6)), (0, .ref h0), (1, .int x1), (2, .int x2), (3, .int x3), (4, .int x4)] [] [(h0, .inr (8, [.ref h1, .ref h2, .int n_saved, .ref h3, .long n_hash])), (h1, .inl (E.2.1, 404, .inl g20)), (h2, .inl (E.2.1, 1212, .inl a_past)), (h3, .inl (E.2.1, 9, .inl a_errors))] [0, 1, 2, 3, 4, 5, 6] [0, 1, 2, 3] rfl rfl rfl rfl ?_
              refine V_goto hC 192 (by decide) dX9_serve_147 ?_
              refine V_goto hC 29 (by decide) dX9_serve_192 ?_
              refine V_cast [(0, .ref h0), (1, .int x1), (2, .int x2), (3, .int x3), (4, .int x4)] [] [(h0, .inr (8, [.ref h1, .ref h2, .int n_saved, .ref h3, .long n_hash])), (h1, .inl (E.2.1, 404, .inl g20)), (h2, .inl (E.2.1, 1212, .inl a_past)), (h3, .inl (E.2.1, 9, .inl a_errors))] [2, 3, 4, 5, 6] [0, 1, 2, 3] rfl rfl rfl rfl ?_
              exact ih x1 x2 x3 x4 g20 a_past n_saved a_errors hw
            · have hw := hw.2 c19
              refine V_iload hC 0 rfl dX9_serve_127 ?_
              refine V_aload_n hC 2 rfl rfl dX9_serve_129 ?_
              refine V_get hC inX9 rfl 0 (by decide) wd_611 0 rfl rfl dX9_serve_130 ?_
              refine V_sipush hC 372 dX9_serve_133 (by decide) ?_
              refine V_iload hC 1 rfl dX9_serve_136 ?_
              refine V_iadd hC dX9_serve_138 ?_
              refine V_iald hC _ rfl 1 rfl hw.1 dX9_serve_139 ?_
              have hw := hw.2
              refine V_icmp_le hC 150 (by decide) dX9_serve_140 (fun c21 => ?_) (fun c21 => ?_)
              · have hw := hw.1 c21
                refine V_iload hC 0 rfl dX9_serve_150 ?_
                refine V_iload_n hC 4 rfl rfl dX9_serve_152 ?_
                refine V_icmp_le hC 162 (by decide) dX9_serve_153 (fun c22 => ?_) (fun c22 => ?_)
                · have hw := hw.1 c22
                  refine V_iload_n hC 4 rfl rfl dX9_serve_162 ?_
                  refine V_aload_n hC 2 rfl rfl dX9_serve_163 ?_
                  refine V_iload hC 1 rfl dX9_serve_164 ?_
                  refine V_callV hC (wr := []) 1 [.int (a_now 6)] [.int x2] (ct_X9_takes l E h0 h1 h2 h3 a_now a_past n_saved a_errors n_hash (a_now 6) _ hw) wd_815 wd_40 wd_812 wd_814 wd_28 (by decide +kernel) rfl ⟨Nat.le_of_ble_eq_true rfl, Nat.le_of_ble_eq_true rfl⟩ [0, 1, 2, 3] [] rfl rfl rfl rfl (by decide) rfl rfl rfl (Nat.le_of_ble_eq_true rfl) ⟨Nat.le_of_ble_eq_true rfl, Nat.le_of_ble_eq_true rfl⟩ dX9_serve_166 (fun v ws' hp => ?_)
                  obtain ⟨r23, g24, rfl, rfl, hw⟩ := hp
                  refine V_cast [(6, .int (a_now (Int32.toNatClampNeg (244 + (8 * (a_now 6)))))), (5, .int (a_now 6)), (0, .ref h0), (1, .int x1), (2, .int x2), (3, .int x3), (4, .int x4)] [.int r23, .int x2] [(h0, .inr (8, [.ref h1, .ref h2, .int n_saved, .ref h3, .long n_hash])), (h1, .inl (E.2.1, 404, .inl g24)), (h2, .inl (E.2.1, 1212, .inl a_past)), (h3, .inl (E.2.1, 9, .inl a_errors))] [0, 1, 2, 3, 4, 5, 6] [0, 1, 2, 3] rfl rfl rfl rfl ?_
                  refine V_isub hC dX9_serve_169 ?_
                  refine V_istore_n hC [(2, .int (x2 - r23)), (6, .int (a_now (Int32.toNatClampNeg (244 + (8 * (a_now 6)))))), (5, .int (a_now 6)), (0, .ref h0), (1, .int x1), (3, .int x3), (4, .int x4)] rfl (by decide) rfl dX9_serve_170 ?_
                  refine V_iinc hC (x3 + 1) 5 [(3, .int (x3 + 1)), (2, .int (x2 - r23)), (6, .int (a_now (Int32.toNatClampNeg (244 + (8 * (a_now 6)))))), (5, .int (a_now 6)), (0, .ref h0), (1, .int x1), (4, .int x4)] rfl (congrArg (fun z => x3 + z) (by decide : Int32.ofInt (1) = (1 : Int32))) (by decide) rfl dX9_serve_171 ?_
                  refine V_aload_n hC 4 rfl rfl dX9_serve_174 ?_
                  refine V_get hC inX9 rfl 0 (by decide) wd_611 0 rfl rfl dX9_serve_175 ?_
                  refine V_sipush hC 228 dX9_serve_178 (by decide) ?_
                  refine V_iload hC 3 rfl dX9_serve_181 ?_
                  refine V_iadd hC dX9_serve_183 ?_
                  refine V_iald hC _ rfl 1 rfl hw.1 dX9_serve_184 ?_
                  have hw := hw.2
                  refine V_if_ne hC 192 (by decide) dX9_serve_185 (fun c25 => ?_) (fun c25 => ?_)
                  · have hw := hw.1 c25
                    refine V_goto hC 29 (by decide) dX9_serve_192 ?_
                    refine V_cast [(0, .ref h0), (1, .int x1), (2, .int (x2 - r23)), (3, .int (x3 + 1)), (4, .int x4)] [] [(h0, .inr (8, [.ref h1, .ref h2, .int n_saved, .ref h3, .long n_hash])), (h1, .inl (E.2.1, 404, .inl g24)), (h2, .inl (E.2.1, 1212, .inl a_past)), (h3, .inl (E.2.1, 9, .inl a_errors))] [4, 5, 1, 0, 6] [0, 1, 2, 3] rfl rfl rfl rfl ?_
                    exact ih x1 (x2 - r23) (x3 + 1) x4 g24 a_past n_saved a_errors hw
                  · have hw := hw.2 c25
                    refine V_aload_n hC 4 rfl rfl dX9_serve_188 ?_
                    refine V_callV hC (wr := []) 0 [] [] (ct_X9_moves l E h0 h1 h2 h3 g24 a_past n_saved a_errors n_hash _ hw) wd_811 wd_40 wd_808 wd_810 wd_27 (by decide +kernel) rfl ⟨Nat.le_of_ble_eq_true rfl, Nat.le_of_ble_eq_true rfl⟩ [0, 1, 2, 3] [] rfl rfl rfl rfl (by decide) rfl rfl rfl (Nat.le_of_ble_eq_true rfl) ⟨Nat.le_of_ble_eq_true rfl, Nat.le_of_ble_eq_true rfl⟩ dX9_serve_189 (fun v ws' hp => ?_)
                    obtain ⟨g26, rfl, rfl, hw⟩ := hp
                    refine V_cast [(3, .int (x3 + 1)), (2, .int (x2 - r23)), (6, .int (a_now (Int32.toNatClampNeg (244 + (8 * (a_now 6)))))), (5, .int (a_now 6)), (0, .ref h0), (1, .int x1), (4, .int x4)] [] [(h0, .inr (8, [.ref h1, .ref h2, .int n_saved, .ref h3, .long n_hash])), (h1, .inl (E.2.1, 404, .inl g26)), (h2, .inl (E.2.1, 1212, .inl a_past)), (h3, .inl (E.2.1, 9, .inl a_errors))] [0, 1, 2, 3, 4, 5, 6] [0, 1, 2, 3] rfl rfl rfl rfl ?_
                    refine V_goto hC 29 (by decide) dX9_serve_192 ?_
                    refine V_cast [(0, .ref h0), (1, .int x1), (2, .int (x2 - r23)), (3, .int (x3 + 1)), (4, .int x4)] [] [(h0, .inr (8, [.ref h1, .ref h2, .int n_saved, .ref h3, .long n_hash])), (h1, .inl (E.2.1, 404, .inl g26)), (h2, .inl (E.2.1, 1212, .inl a_past)), (h3, .inl (E.2.1, 9, .inl a_errors))] [4, 5, 1, 0, 6] [0, 1, 2, 3] rfl rfl rfl rfl ?_
                    exact ih x1 (x2 - r23) (x3 + 1) x4 g26 a_past n_saved a_errors hw
                · have hw := hw.2 c22
                  refine V_iconst hC 1 dX9_serve_156 (by decide) ?_
                  refine V_istore hC [(4, .int 1), (6, .int (a_now (Int32.toNatClampNeg (244 + (8 * (a_now 6)))))), (5, .int (a_now 6)), (0, .ref h0), (1, .int x1), (2, .int x2), (3, .int x3)] (by decide) rfl dX9_serve_157 ?_
                  refine V_goto hC 192 (by decide) dX9_serve_159 ?_
                  refine V_goto hC 29 (by decide) dX9_serve_192 ?_
                  refine V_cast [(0, .ref h0), (1, .int x1), (2, .int x2), (3, .int x3), (4, .int 1)] [] [(h0, .inr (8, [.ref h1, .ref h2, .int n_saved, .ref h3, .long n_hash])), (h1, .inl (E.2.1, 404, .inl a_now)), (h2, .inl (E.2.1, 1212, .inl a_past)), (h3, .inl (E.2.1, 9, .inl a_errors))] [3, 4, 5, 6, 0] [0, 1, 2, 3] rfl rfl rfl rfl ?_
                  exact ih x1 x2 x3 1 a_now a_past n_saved a_errors hw
              · have hw := hw.2 c21
                refine V_aload_n hC 2 rfl rfl dX9_serve_143 ?_
                refine V_callV hC (wr := []) 0 [] [] (ct_X9_moves l E h0 h1 h2 h3 a_now a_past n_saved a_errors n_hash _ hw) wd_811 wd_40 wd_808 wd_810 wd_27 (by decide +kernel) rfl ⟨Nat.le_of_ble_eq_true rfl, Nat.le_of_ble_eq_true rfl⟩ [0, 1, 2, 3] [] rfl rfl rfl rfl (by decide) rfl rfl rfl (Nat.le_of_ble_eq_true rfl) ⟨Nat.le_of_ble_eq_true rfl, Nat.le_of_ble_eq_true rfl⟩ dX9_serve_144 (fun v ws' hp => ?_)
                obtain ⟨g27, rfl, rfl, hw⟩ := hp
                refine V_cast [(6, .int (a_now (Int32.toNatClampNeg (244 + (8 * (a_now 6)))))), (5, .int (a_now 6)), (0, .ref h0), (1, .int x1), (2, .int x2), (3, .int x3), (4, .int x4)] [] [(h0, .inr (8, [.ref h1, .ref h2, .int n_saved, .ref h3, .long n_hash])), (h1, .inl (E.2.1, 404, .inl g27)), (h2, .inl (E.2.1, 1212, .inl a_past)), (h3, .inl (E.2.1, 9, .inl a_errors))] [0, 1, 2, 3, 4, 5, 6] [0, 1, 2, 3] rfl rfl rfl rfl ?_
                refine V_goto hC 192 (by decide) dX9_serve_147 ?_
                refine V_goto hC 29 (by decide) dX9_serve_192 ?_
                refine V_cast [(0, .ref h0), (1, .int x1), (2, .int x2), (3, .int x3), (4, .int x4)] [] [(h0, .inr (8, [.ref h1, .ref h2, .int n_saved, .ref h3, .long n_hash])), (h1, .inl (E.2.1, 404, .inl g27)), (h2, .inl (E.2.1, 1212, .inl a_past)), (h3, .inl (E.2.1, 9, .inl a_errors))] [2, 3, 4, 5, 6] [0, 1, 2, 3] rfl rfl rfl rfl ?_
                exact ih x1 x2 x3 x4 g27 a_past n_saved a_errors hw
          · have hw := hw.2 c18
            refine V_aload_n hC 2 rfl rfl dX9_serve_90 ?_
            refine V_get hC inX9 rfl 0 (by decide) wd_611 0 rfl rfl dX9_serve_91 ?_
            refine V_sipush hC 372 dX9_serve_94 (by decide) ?_
            refine V_iload hC 1 rfl dX9_serve_97 ?_
            refine V_iadd hC dX9_serve_99 ?_
            refine V_dup2 hC rfl rfl dX9_serve_100 ?_
            refine V_iald hC _ rfl 1 rfl hw.1 dX9_serve_101 ?_
            have hw := hw.2
            refine V_iconst hC 4 dX9_serve_102 (by decide) ?_
            refine V_iadd hC dX9_serve_103 ?_
            refine V_iast hC _ rfl 1 rfl hw.1 dX9_serve_104 (fun f28 ef28 => ?_)
            have hw := hw.2
            have hw := hw f28 ef28
            refine V_ws [(h0, .inr (8, [.ref h1, .ref h2, .int n_saved, .ref h3, .long n_hash])), (h1, .inl (E.2.1, 404, .inl f28)), (h2, .inl (E.2.1, 1212, .inl a_past)), (h3, .inl (E.2.1, 9, .inl a_errors))] rfl ?_
            refine V_aload_n hC 2 rfl rfl dX9_serve_105 ?_
            refine V_get hC inX9 rfl 0 (by decide) wd_611 0 rfl rfl dX9_serve_106 ?_
            refine V_bipush hC 7 dX9_serve_109 (by decide) ?_
            refine V_iconst hC 1 dX9_serve_111 (by decide) ?_
            refine V_iast hC 7 (by decide) 1 rfl (by unfold vp_in; decide) dX9_serve_112 (fun f29 ef29 => ?_)
            have hw := hw f29 ef29
            refine V_ws [(h0, .inr (8, [.ref h1, .ref h2, .int n_saved, .ref h3, .long n_hash])), (h1, .inl (E.2.1, 404, .inl f29)), (h2, .inl (E.2.1, 1212, .inl a_past)), (h3, .inl (E.2.1, 9, .inl a_errors))] rfl ?_
            refine V_aload_n hC 2 rfl rfl dX9_serve_113 ?_
            refine V_get hC inX9 rfl 0 (by decide) wd_611 0 rfl rfl dX9_serve_114 ?_
            refine V_sipush hC 228 dX9_serve_117 (by decide) ?_
            refine V_iload hC 1 rfl dX9_serve_120 ?_
            refine V_iadd hC dX9_serve_122 ?_
            refine V_iald hC _ rfl 1 rfl hw.1 dX9_serve_123 ?_
            have hw := hw.2
            refine V_if_eq hC 143 (by decide) dX9_serve_124 (fun c30 => ?_) (fun c30 => ?_)
            · have hw := hw.1 c30
              refine V_aload_n hC 2 rfl rfl dX9_serve_143 ?_
              refine V_callV hC (wr := []) 0 [] [] (ct_X9_moves l E h0 h1 h2 h3 f29 a_past n_saved a_errors n_hash _ hw) wd_811 wd_40 wd_808 wd_810 wd_27 (by decide +kernel) rfl ⟨Nat.le_of_ble_eq_true rfl, Nat.le_of_ble_eq_true rfl⟩ [0, 1, 2, 3] [] rfl rfl rfl rfl (by decide) rfl rfl rfl (Nat.le_of_ble_eq_true rfl) ⟨Nat.le_of_ble_eq_true rfl, Nat.le_of_ble_eq_true rfl⟩ dX9_serve_144 (fun v ws' hp => ?_)
              obtain ⟨g31, rfl, rfl, hw⟩ := hp
              refine V_cast [(6, .int (a_now (Int32.toNatClampNeg (244 + (8 * (a_now 6)))))), (5, .int (a_now 6)), (0, .ref h0), (1, .int x1), (2, .int x2), (3, .int x3), (4, .int x4)] [] [(h0, .inr (8, [.ref h1, .ref h2, .int n_saved, .ref h3, .long n_hash])), (h1, .inl (E.2.1, 404, .inl g31)), (h2, .inl (E.2.1, 1212, .inl a_past)), (h3, .inl (E.2.1, 9, .inl a_errors))] [0, 1, 2, 3, 4, 5, 6] [0, 1, 2, 3] rfl rfl rfl rfl ?_
              refine V_goto hC 192 (by decide) dX9_serve_147 ?_
              refine V_goto hC 29 (by decide) dX9_serve_192 ?_
              refine V_cast [(0, .ref h0), (1, .int x1), (2, .int x2), (3, .int x3), (4, .int x4)] [] [(h0, .inr (8, [.ref h1, .ref h2, .int n_saved, .ref h3, .long n_hash])), (h1, .inl (E.2.1, 404, .inl g31)), (h2, .inl (E.2.1, 1212, .inl a_past)), (h3, .inl (E.2.1, 9, .inl a_errors))] [2, 3, 4, 5, 6] [0, 1, 2, 3] rfl rfl rfl rfl ?_
              exact ih x1 x2 x3 x4 g31 a_past n_saved a_errors hw
            · have hw := hw.2 c30
              refine V_iload hC 0 rfl dX9_serve_127 ?_
              refine V_aload_n hC 2 rfl rfl dX9_serve_129 ?_
              refine V_get hC inX9 rfl 0 (by decide) wd_611 0 rfl rfl dX9_serve_130 ?_
              refine V_sipush hC 372 dX9_serve_133 (by decide) ?_
              refine V_iload hC 1 rfl dX9_serve_136 ?_
              refine V_iadd hC dX9_serve_138 ?_
              refine V_iald hC _ rfl 1 rfl hw.1 dX9_serve_139 ?_
              have hw := hw.2
              refine V_icmp_le hC 150 (by decide) dX9_serve_140 (fun c32 => ?_) (fun c32 => ?_)
              · have hw := hw.1 c32
                refine V_iload hC 0 rfl dX9_serve_150 ?_
                refine V_iload_n hC 4 rfl rfl dX9_serve_152 ?_
                refine V_icmp_le hC 162 (by decide) dX9_serve_153 (fun c33 => ?_) (fun c33 => ?_)
                · have hw := hw.1 c33
                  refine V_iload_n hC 4 rfl rfl dX9_serve_162 ?_
                  refine V_aload_n hC 2 rfl rfl dX9_serve_163 ?_
                  refine V_iload hC 1 rfl dX9_serve_164 ?_
                  refine V_callV hC (wr := []) 1 [.int (a_now 6)] [.int x2] (ct_X9_takes l E h0 h1 h2 h3 f29 a_past n_saved a_errors n_hash (a_now 6) _ hw) wd_815 wd_40 wd_812 wd_814 wd_28 (by decide +kernel) rfl ⟨Nat.le_of_ble_eq_true rfl, Nat.le_of_ble_eq_true rfl⟩ [0, 1, 2, 3] [] rfl rfl rfl rfl (by decide) rfl rfl rfl (Nat.le_of_ble_eq_true rfl) ⟨Nat.le_of_ble_eq_true rfl, Nat.le_of_ble_eq_true rfl⟩ dX9_serve_166 (fun v ws' hp => ?_)
                  obtain ⟨r34, g35, rfl, rfl, hw⟩ := hp
                  refine V_cast [(6, .int (a_now (Int32.toNatClampNeg (244 + (8 * (a_now 6)))))), (5, .int (a_now 6)), (0, .ref h0), (1, .int x1), (2, .int x2), (3, .int x3), (4, .int x4)] [.int r34, .int x2] [(h0, .inr (8, [.ref h1, .ref h2, .int n_saved, .ref h3, .long n_hash])), (h1, .inl (E.2.1, 404, .inl g35)), (h2, .inl (E.2.1, 1212, .inl a_past)), (h3, .inl (E.2.1, 9, .inl a_errors))] [0, 1, 2, 3, 4, 5, 6] [0, 1, 2, 3] rfl rfl rfl rfl ?_
                  refine V_isub hC dX9_serve_169 ?_
                  refine V_istore_n hC [(2, .int (x2 - r34)), (6, .int (a_now (Int32.toNatClampNeg (244 + (8 * (a_now 6)))))), (5, .int (a_now 6)), (0, .ref h0), (1, .int x1), (3, .int x3), (4, .int x4)] rfl (by decide) rfl dX9_serve_170 ?_
                  refine V_iinc hC (x3 + 1) 5 [(3, .int (x3 + 1)), (2, .int (x2 - r34)), (6, .int (a_now (Int32.toNatClampNeg (244 + (8 * (a_now 6)))))), (5, .int (a_now 6)), (0, .ref h0), (1, .int x1), (4, .int x4)] rfl (congrArg (fun z => x3 + z) (by decide : Int32.ofInt (1) = (1 : Int32))) (by decide) rfl dX9_serve_171 ?_
                  refine V_aload_n hC 4 rfl rfl dX9_serve_174 ?_
                  refine V_get hC inX9 rfl 0 (by decide) wd_611 0 rfl rfl dX9_serve_175 ?_
                  refine V_sipush hC 228 dX9_serve_178 (by decide) ?_
                  refine V_iload hC 3 rfl dX9_serve_181 ?_
                  refine V_iadd hC dX9_serve_183 ?_
                  refine V_iald hC _ rfl 1 rfl hw.1 dX9_serve_184 ?_
                  have hw := hw.2
                  refine V_if_ne hC 192 (by decide) dX9_serve_185 (fun c36 => ?_) (fun c36 => ?_)
                  · have hw := hw.1 c36
                    refine V_goto hC 29 (by decide) dX9_serve_192 ?_
                    refine V_cast [(0, .ref h0), (1, .int x1), (2, .int (x2 - r34)), (3, .int (x3 + 1)), (4, .int x4)] [] [(h0, .inr (8, [.ref h1, .ref h2, .int n_saved, .ref h3, .long n_hash])), (h1, .inl (E.2.1, 404, .inl g35)), (h2, .inl (E.2.1, 1212, .inl a_past)), (h3, .inl (E.2.1, 9, .inl a_errors))] [4, 5, 1, 0, 6] [0, 1, 2, 3] rfl rfl rfl rfl ?_
                    exact ih x1 (x2 - r34) (x3 + 1) x4 g35 a_past n_saved a_errors hw
                  · have hw := hw.2 c36
                    refine V_aload_n hC 4 rfl rfl dX9_serve_188 ?_
                    refine V_callV hC (wr := []) 0 [] [] (ct_X9_moves l E h0 h1 h2 h3 g35 a_past n_saved a_errors n_hash _ hw) wd_811 wd_40 wd_808 wd_810 wd_27 (by decide +kernel) rfl ⟨Nat.le_of_ble_eq_true rfl, Nat.le_of_ble_eq_true rfl⟩ [0, 1, 2, 3] [] rfl rfl rfl rfl (by decide) rfl rfl rfl (Nat.le_of_ble_eq_true rfl) ⟨Nat.le_of_ble_eq_true rfl, Nat.le_of_ble_eq_true rfl⟩ dX9_serve_189 (fun v ws' hp => ?_)
                    obtain ⟨g37, rfl, rfl, hw⟩ := hp
                    refine V_cast [(3, .int (x3 + 1)), (2, .int (x2 - r34)), (6, .int (a_now (Int32.toNatClampNeg (244 + (8 * (a_now 6)))))), (5, .int (a_now 6)), (0, .ref h0), (1, .int x1), (4, .int x4)] [] [(h0, .inr (8, [.ref h1, .ref h2, .int n_saved, .ref h3, .long n_hash])), (h1, .inl (E.2.1, 404, .inl g37)), (h2, .inl (E.2.1, 1212, .inl a_past)), (h3, .inl (E.2.1, 9, .inl a_errors))] [0, 1, 2, 3, 4, 5, 6] [0, 1, 2, 3] rfl rfl rfl rfl ?_
                    refine V_goto hC 29 (by decide) dX9_serve_192 ?_
                    refine V_cast [(0, .ref h0), (1, .int x1), (2, .int (x2 - r34)), (3, .int (x3 + 1)), (4, .int x4)] [] [(h0, .inr (8, [.ref h1, .ref h2, .int n_saved, .ref h3, .long n_hash])), (h1, .inl (E.2.1, 404, .inl g37)), (h2, .inl (E.2.1, 1212, .inl a_past)), (h3, .inl (E.2.1, 9, .inl a_errors))] [4, 5, 1, 0, 6] [0, 1, 2, 3] rfl rfl rfl rfl ?_
                    exact ih x1 (x2 - r34) (x3 + 1) x4 g37 a_past n_saved a_errors hw
                · have hw := hw.2 c33
                  refine V_iconst hC 1 dX9_serve_156 (by decide) ?_
                  refine V_istore hC [(4, .int 1), (6, .int (a_now (Int32.toNatClampNeg (244 + (8 * (a_now 6)))))), (5, .int (a_now 6)), (0, .ref h0), (1, .int x1), (2, .int x2), (3, .int x3)] (by decide) rfl dX9_serve_157 ?_
                  refine V_goto hC 192 (by decide) dX9_serve_159 ?_
                  refine V_goto hC 29 (by decide) dX9_serve_192 ?_
                  refine V_cast [(0, .ref h0), (1, .int x1), (2, .int x2), (3, .int x3), (4, .int 1)] [] [(h0, .inr (8, [.ref h1, .ref h2, .int n_saved, .ref h3, .long n_hash])), (h1, .inl (E.2.1, 404, .inl f29)), (h2, .inl (E.2.1, 1212, .inl a_past)), (h3, .inl (E.2.1, 9, .inl a_errors))] [3, 4, 5, 6, 0] [0, 1, 2, 3] rfl rfl rfl rfl ?_
                  exact ih x1 x2 x3 1 f29 a_past n_saved a_errors hw
              · have hw := hw.2 c32
                refine V_aload_n hC 2 rfl rfl dX9_serve_143 ?_
                refine V_callV hC (wr := []) 0 [] [] (ct_X9_moves l E h0 h1 h2 h3 f29 a_past n_saved a_errors n_hash _ hw) wd_811 wd_40 wd_808 wd_810 wd_27 (by decide +kernel) rfl ⟨Nat.le_of_ble_eq_true rfl, Nat.le_of_ble_eq_true rfl⟩ [0, 1, 2, 3] [] rfl rfl rfl rfl (by decide) rfl rfl rfl (Nat.le_of_ble_eq_true rfl) ⟨Nat.le_of_ble_eq_true rfl, Nat.le_of_ble_eq_true rfl⟩ dX9_serve_144 (fun v ws' hp => ?_)
                obtain ⟨g38, rfl, rfl, hw⟩ := hp
                refine V_cast [(6, .int (a_now (Int32.toNatClampNeg (244 + (8 * (a_now 6)))))), (5, .int (a_now 6)), (0, .ref h0), (1, .int x1), (2, .int x2), (3, .int x3), (4, .int x4)] [] [(h0, .inr (8, [.ref h1, .ref h2, .int n_saved, .ref h3, .long n_hash])), (h1, .inl (E.2.1, 404, .inl g38)), (h2, .inl (E.2.1, 1212, .inl a_past)), (h3, .inl (E.2.1, 9, .inl a_errors))] [0, 1, 2, 3, 4, 5, 6] [0, 1, 2, 3] rfl rfl rfl rfl ?_
                refine V_goto hC 192 (by decide) dX9_serve_147 ?_
                refine V_goto hC 29 (by decide) dX9_serve_192 ?_
                refine V_cast [(0, .ref h0), (1, .int x1), (2, .int x2), (3, .int x3), (4, .int x4)] [] [(h0, .inr (8, [.ref h1, .ref h2, .int n_saved, .ref h3, .long n_hash])), (h1, .inl (E.2.1, 404, .inl g38)), (h2, .inl (E.2.1, 1212, .inl a_past)), (h3, .inl (E.2.1, 9, .inl a_errors))] [2, 3, 4, 5, 6] [0, 1, 2, 3] rfl rfl rfl rfl ?_
                exact ih x1 x2 x3 x4 g38 a_past n_saved a_errors hw
def wp_X9_serve (a_now : Nat → Int32) (a_past : Nat → Int32) (n_saved : Int32) (a_errors : Nat → Int32) (n_hash : Int64) (p1 : Int32) (K : Int32 → (Nat → Int32) → (Nat → Int32) → Int32 → (Nat → Int32) → Prop) : Prop := (wp_X9_within p1 0 200 (fun (r1 : Int32) => ((¬ r1 = 0 → (wp_X9_saves a_now a_past n_saved a_errors n_hash (fun (g3 : Nat → Int32) (s4 : Int32) => (∃ n8 : Nat, wpl_X9_serve_29 n_hash K n8 p1 p1 0 0 a_now g3 s4 a_errors)))) ∧ (r1 = 0 → (wp_X9_fails a_now a_past n_saved a_errors n_hash (-2) (fun (r39 : Int32) (g40 : Nat → Int32) => K r39 a_now a_past n_saved g40))))))
set_option maxRecDepth 100000 in
set_option maxHeartbeats 4000000 in
theorem ct_X9_serve (l : Launch) (E : EN) (h0 : Nat) (h1 : Nat) (h2 : Nat) (h3 : Nat) (a_now : Nat → Int32) (a_past : Nat → Int32) (n_saved : Int32) (a_errors : Nat → Int32) (n_hash : Int64) (p1 : Int32) (K : Int32 → (Nat → Int32) → (Nat → Int32) → Int32 → (Nat → Int32) → Prop) (hw : wp_X9_serve a_now a_past n_saved a_errors n_hash p1 K) : Con l yX9_serve cX9_serve 7 (some .int) { frames := 1, cells := 0, slots := 0, locals := 23 } E [.ref h0, .int p1] [(h0, .inr (8, [.ref h1, .ref h2, .int n_saved, .ref h3, .long n_hash])), (h1, .inl (E.2.1, 404, .inl a_now)), (h2, .inl (E.2.1, 1212, .inl a_past)), (h3, .inl (E.2.1, 9, .inl a_errors))] (po_X9_serve E h0 h1 h2 h3 n_hash K) := by
  refine Con.mk (by decide +kernel) (Nat.le_of_ble_eq_true rfl) ?_
  intro p e s m below meth c A hC hr hin
  have hC : Cx p s m _ meth c E A cX9_serve 7 "CookieServerModel" := hC
  rw [wp_X9_serve] at hw
  refine V_cast [(0, .ref h0), (1, .int p1)] [] [(h0, .inr (8, [.ref h1, .ref h2, .int n_saved, .ref h3, .long n_hash])), (h1, .inl (E.2.1, 404, .inl a_now)), (h2, .inl (E.2.1, 1212, .inl a_past)), (h3, .inl (E.2.1, 9, .inl a_errors))] [0, 1] [0, 1, 2, 3] rfl rfl rfl rfl ?_
  refine V_iload_n hC 1 rfl rfl dX9_serve_0 ?_
  refine V_iconst hC 0 dX9_serve_1 (by decide) ?_
  refine V_sipush hC 200 dX9_serve_2 (by decide) ?_
  refine V_callS hC (wr := [(h0, .inr (8, [.ref h1, .ref h2, .int n_saved, .ref h3, .long n_hash])), (h1, .inl (E.2.1, 404, .inl a_now)), (h2, .inl (E.2.1, 1212, .inl a_past)), (h3, .inl (E.2.1, 9, .inl a_errors))]) 3 [.int p1, .int 0, .int 200] [] (ct_X9_within l E p1 0 200 _ hw) wd_641 wd_40 wd_639 wd_640 (by decide +kernel) rfl ⟨Nat.le_of_ble_eq_true rfl, Nat.le_of_ble_eq_true rfl⟩ [] [0, 1, 2, 3] rfl rfl rfl rfl (by decide) rfl (Nat.le_of_ble_eq_true rfl) ⟨Nat.le_of_ble_eq_true rfl, Nat.le_of_ble_eq_true rfl⟩ dX9_serve_5 (fun v ws' hp => ?_)
  obtain ⟨r1, rfl, rfl, hw⟩ := hp
  refine V_cast [(0, .ref h0), (1, .int p1)] [.int r1] [(h0, .inr (8, [.ref h1, .ref h2, .int n_saved, .ref h3, .long n_hash])), (h1, .inl (E.2.1, 404, .inl a_now)), (h2, .inl (E.2.1, 1212, .inl a_past)), (h3, .inl (E.2.1, 9, .inl a_errors))] [0, 1] [0, 1, 2, 3] rfl rfl rfl rfl ?_
  refine V_if_ne hC 18 (by decide) dX9_serve_8 (fun c2 => ?_) (fun c2 => ?_)
  · have hw := hw.1 c2
    refine V_aload_n hC 0 rfl rfl dX9_serve_18 ?_
    refine V_callV hC (wr := []) 0 [] [] (ct_X9_saves l E h0 h1 h2 h3 a_now a_past n_saved a_errors n_hash _ hw) wd_645 wd_40 wd_642 wd_644 wd_13 (by decide +kernel) rfl ⟨Nat.le_of_ble_eq_true rfl, Nat.le_of_ble_eq_true rfl⟩ [0, 1, 2, 3] [] rfl rfl rfl rfl (by decide) rfl rfl rfl (Nat.le_of_ble_eq_true rfl) ⟨Nat.le_of_ble_eq_true rfl, Nat.le_of_ble_eq_true rfl⟩ dX9_serve_19 (fun v ws' hp => ?_)
    obtain ⟨g3, s4, rfl, rfl, hw⟩ := hp
    refine V_cast [(0, .ref h0), (1, .int p1)] [] [(h0, .inr (8, [.ref h1, .ref h2, .int s4, .ref h3, .long n_hash])), (h1, .inl (E.2.1, 404, .inl a_now)), (h2, .inl (E.2.1, 1212, .inl g3)), (h3, .inl (E.2.1, 9, .inl a_errors))] [0, 1] [0, 1, 2, 3] rfl rfl rfl rfl ?_
    refine V_iload_n hC 1 rfl rfl dX9_serve_22 ?_
    refine V_istore_n hC [(2, .int p1), (0, .ref h0), (1, .int p1)] rfl (by decide) rfl dX9_serve_23 ?_
    refine V_iconst hC 0 dX9_serve_24 (by decide) ?_
    refine V_istore_n hC [(3, .int 0), (2, .int p1), (0, .ref h0), (1, .int p1)] rfl (by decide) rfl dX9_serve_25 ?_
    refine V_iconst hC 0 dX9_serve_26 (by decide) ?_
    refine V_istore hC [(4, .int 0), (3, .int 0), (2, .int p1), (0, .ref h0), (1, .int p1)] (by decide) rfl dX9_serve_27 ?_
    refine V_cast [(0, .ref h0), (1, .int p1), (2, .int p1), (3, .int 0), (4, .int 0)] [] [(h0, .inr (8, [.ref h1, .ref h2, .int s4, .ref h3, .long n_hash])), (h1, .inl (E.2.1, 404, .inl a_now)), (h2, .inl (E.2.1, 1212, .inl g3)), (h3, .inl (E.2.1, 9, .inl a_errors))] [3, 4, 2, 1, 0] [0, 1, 2, 3] rfl rfl rfl rfl ?_
    obtain ⟨n8, hw⟩ := hw
    exact bl_X9_serve_29 hC hr h0 h1 h2 h3 n_hash K n8 p1 p1 0 0 a_now g3 s4 a_errors hw
  · have hw := hw.2 c2
    refine V_aload_n hC 0 rfl rfl dX9_serve_11 ?_
    refine V_bipush hC (-2) dX9_serve_12 (by decide) ?_
    refine V_callV hC (wr := []) 1 [.int (-2)] [] (ct_X9_fails l E h0 h1 h2 h3 a_now a_past n_saved a_errors n_hash (-2) _ hw) wd_634 wd_40 wd_631 wd_633 wd_12 (by decide +kernel) rfl ⟨Nat.le_of_ble_eq_true rfl, Nat.le_of_ble_eq_true rfl⟩ [0, 1, 2, 3] [] rfl rfl rfl rfl (by decide) rfl rfl rfl (Nat.le_of_ble_eq_true rfl) ⟨Nat.le_of_ble_eq_true rfl, Nat.le_of_ble_eq_true rfl⟩ dX9_serve_14 (fun v ws' hp => ?_)
    obtain ⟨r39, g40, rfl, rfl, hw⟩ := hp
    refine V_cast [(0, .ref h0), (1, .int p1)] [.int r39] [(h0, .inr (8, [.ref h1, .ref h2, .int n_saved, .ref h3, .long n_hash])), (h1, .inl (E.2.1, 404, .inl a_now)), (h2, .inl (E.2.1, 1212, .inl a_past)), (h3, .inl (E.2.1, 9, .inl g40))] [0, 1] [0, 1, 2, 3] rfl rfl rfl rfl ?_
    exact V_iret hC hr ⟨r39, a_now, a_past, n_saved, g40, rfl, rfl, hw⟩ dX9_serve_17
abbrev po_X9_queued (E : EN) (h0 : Nat) (h1 : Nat) (h2 : Nat) (h3 : Nat) (a_now : Nat → Int32) (a_past : Nat → Int32) (n_saved : Int32) (n_hash : Int64) (K : Int32 → (Nat → Int32) → Prop) : Option Value → va_W → Prop := fun v ws' => ∃ (r0 : Int32) (a_errors : Nat → Int32), v = some (.int r0) ∧ ws' = [(h0, .inr (8, [.ref h1, .ref h2, .int n_saved, .ref h3, .long n_hash])), (h1, .inl (E.2.1, 404, .inl a_now)), (h2, .inl (E.2.1, 1212, .inl a_past)), (h3, .inl (E.2.1, 9, .inl a_errors))] ∧ K r0 a_errors
def wp_X9_queued (a_now : Nat → Int32) (a_past : Nat → Int32) (n_saved : Int32) (a_errors : Nat → Int32) (n_hash : Int64) (p1 : Int32) (K : Int32 → (Nat → Int32) → Prop) : Prop := (wp_X9_isClient p1 (fun (r1 : Int32) => ((r1 = 0 → (wp_X9_fails a_now a_past n_saved a_errors n_hash (-2) (fun (r3 : Int32) (g4 : Nat → Int32) => K r3 g4))) ∧ (¬ (r1 = 0) → (vp_in (228 + p1) 404 ∧ K (a_now (Int32.toNatClampNeg (228 + p1))) a_errors)))))
set_option maxRecDepth 100000 in
set_option maxHeartbeats 4000000 in
theorem ct_X9_queued (l : Launch) (E : EN) (h0 : Nat) (h1 : Nat) (h2 : Nat) (h3 : Nat) (a_now : Nat → Int32) (a_past : Nat → Int32) (n_saved : Int32) (a_errors : Nat → Int32) (n_hash : Int64) (p1 : Int32) (K : Int32 → (Nat → Int32) → Prop) (hw : wp_X9_queued a_now a_past n_saved a_errors n_hash p1 K) : Con l yX9_queued cX9_queued 2 (some .int) { frames := 2, cells := 0, slots := 0, locals := 42 } E [.ref h0, .int p1] [(h0, .inr (8, [.ref h1, .ref h2, .int n_saved, .ref h3, .long n_hash])), (h1, .inl (E.2.1, 404, .inl a_now)), (h2, .inl (E.2.1, 1212, .inl a_past)), (h3, .inl (E.2.1, 9, .inl a_errors))] (po_X9_queued E h0 h1 h2 h3 a_now a_past n_saved n_hash K) := by
  refine Con.mk (by decide +kernel) (Nat.le_of_ble_eq_true rfl) ?_
  intro p e s m below meth c A hC hr hin
  have hC : Cx p s m _ meth c E A cX9_queued 2 "CookieServerModel" := hC
  rw [wp_X9_queued] at hw
  refine V_cast [(0, .ref h0), (1, .int p1)] [] [(h0, .inr (8, [.ref h1, .ref h2, .int n_saved, .ref h3, .long n_hash])), (h1, .inl (E.2.1, 404, .inl a_now)), (h2, .inl (E.2.1, 1212, .inl a_past)), (h3, .inl (E.2.1, 9, .inl a_errors))] [0, 1] [0, 1, 2, 3] rfl rfl rfl rfl ?_
  refine V_iload_n hC 1 rfl rfl dX9_queued_0 ?_
  refine V_callS hC (wr := [(h0, .inr (8, [.ref h1, .ref h2, .int n_saved, .ref h3, .long n_hash])), (h1, .inl (E.2.1, 404, .inl a_now)), (h2, .inl (E.2.1, 1212, .inl a_past)), (h3, .inl (E.2.1, 9, .inl a_errors))]) 1 [.int p1] [] (ct_X9_isClient l E p1 _ hw) wd_799 wd_40 wd_797 wd_798 (by decide +kernel) rfl ⟨Nat.le_of_ble_eq_true rfl, Nat.le_of_ble_eq_true rfl⟩ [] [0, 1, 2, 3] rfl rfl rfl rfl (by decide) rfl (Nat.le_of_ble_eq_true rfl) ⟨Nat.le_of_ble_eq_true rfl, Nat.le_of_ble_eq_true rfl⟩ dX9_queued_1 (fun v ws' hp => ?_)
  obtain ⟨r1, rfl, rfl, hw⟩ := hp
  refine V_cast [(0, .ref h0), (1, .int p1)] [.int r1] [(h0, .inr (8, [.ref h1, .ref h2, .int n_saved, .ref h3, .long n_hash])), (h1, .inl (E.2.1, 404, .inl a_now)), (h2, .inl (E.2.1, 1212, .inl a_past)), (h3, .inl (E.2.1, 9, .inl a_errors))] [0, 1] [0, 1, 2, 3] rfl rfl rfl rfl ?_
  refine V_if_eq hC 20 (by decide) dX9_queued_4 (fun c2 => ?_) (fun c2 => ?_)
  · have hw := hw.1 c2
    refine V_aload_n hC 0 rfl rfl dX9_queued_20 ?_
    refine V_bipush hC (-2) dX9_queued_21 (by decide) ?_
    refine V_callV hC (wr := []) 1 [.int (-2)] [] (ct_X9_fails l E h0 h1 h2 h3 a_now a_past n_saved a_errors n_hash (-2) _ hw) wd_634 wd_40 wd_631 wd_633 wd_12 (by decide +kernel) rfl ⟨Nat.le_of_ble_eq_true rfl, Nat.le_of_ble_eq_true rfl⟩ [0, 1, 2, 3] [] rfl rfl rfl rfl (by decide) rfl rfl rfl (Nat.le_of_ble_eq_true rfl) ⟨Nat.le_of_ble_eq_true rfl, Nat.le_of_ble_eq_true rfl⟩ dX9_queued_23 (fun v ws' hp => ?_)
    obtain ⟨r3, g4, rfl, rfl, hw⟩ := hp
    refine V_cast [(0, .ref h0), (1, .int p1)] [.int r3] [(h0, .inr (8, [.ref h1, .ref h2, .int n_saved, .ref h3, .long n_hash])), (h1, .inl (E.2.1, 404, .inl a_now)), (h2, .inl (E.2.1, 1212, .inl a_past)), (h3, .inl (E.2.1, 9, .inl g4))] [0, 1] [0, 1, 2, 3] rfl rfl rfl rfl ?_
    exact V_iret hC hr ⟨r3, g4, rfl, rfl, hw⟩ dX9_queued_26
  · have hw := hw.2 c2
    refine V_aload_n hC 0 rfl rfl dX9_queued_7 ?_
    refine V_get hC inX9 rfl 0 (by decide) wd_611 0 rfl rfl dX9_queued_8 ?_
    refine V_sipush hC 228 dX9_queued_11 (by decide) ?_
    refine V_iload_n hC 1 rfl rfl dX9_queued_14 ?_
    refine V_iadd hC dX9_queued_15 ?_
    refine V_iald hC _ rfl 1 rfl hw.1 dX9_queued_16 ?_
    have hw := hw.2
    refine V_goto hC 26 (by decide) dX9_queued_17 ?_
    exact V_iret hC hr ⟨a_now (Int32.toNatClampNeg (228 + p1)), a_errors, rfl, rfl, hw⟩ dX9_queued_26
abbrev po_X9_credit (E : EN) (h0 : Nat) (h1 : Nat) (h2 : Nat) (h3 : Nat) (a_now : Nat → Int32) (a_past : Nat → Int32) (n_saved : Int32) (n_hash : Int64) (K : Int32 → (Nat → Int32) → Prop) : Option Value → va_W → Prop := fun v ws' => ∃ (r0 : Int32) (a_errors : Nat → Int32), v = some (.int r0) ∧ ws' = [(h0, .inr (8, [.ref h1, .ref h2, .int n_saved, .ref h3, .long n_hash])), (h1, .inl (E.2.1, 404, .inl a_now)), (h2, .inl (E.2.1, 1212, .inl a_past)), (h3, .inl (E.2.1, 9, .inl a_errors))] ∧ K r0 a_errors
def wp_X9_credit (a_now : Nat → Int32) (a_past : Nat → Int32) (n_saved : Int32) (a_errors : Nat → Int32) (n_hash : Int64) (p1 : Int32) (K : Int32 → (Nat → Int32) → Prop) : Prop := (wp_X9_isClient p1 (fun (r1 : Int32) => ((r1 = 0 → (wp_X9_fails a_now a_past n_saved a_errors n_hash (-2) (fun (r3 : Int32) (g4 : Nat → Int32) => K r3 g4))) ∧ (¬ (r1 = 0) → (vp_in (372 + p1) 404 ∧ K (a_now (Int32.toNatClampNeg (372 + p1))) a_errors)))))
set_option maxRecDepth 100000 in
set_option maxHeartbeats 4000000 in
theorem ct_X9_credit (l : Launch) (E : EN) (h0 : Nat) (h1 : Nat) (h2 : Nat) (h3 : Nat) (a_now : Nat → Int32) (a_past : Nat → Int32) (n_saved : Int32) (a_errors : Nat → Int32) (n_hash : Int64) (p1 : Int32) (K : Int32 → (Nat → Int32) → Prop) (hw : wp_X9_credit a_now a_past n_saved a_errors n_hash p1 K) : Con l yX9_credit cX9_credit 2 (some .int) { frames := 2, cells := 0, slots := 0, locals := 42 } E [.ref h0, .int p1] [(h0, .inr (8, [.ref h1, .ref h2, .int n_saved, .ref h3, .long n_hash])), (h1, .inl (E.2.1, 404, .inl a_now)), (h2, .inl (E.2.1, 1212, .inl a_past)), (h3, .inl (E.2.1, 9, .inl a_errors))] (po_X9_credit E h0 h1 h2 h3 a_now a_past n_saved n_hash K) := by
  refine Con.mk (by decide +kernel) (Nat.le_of_ble_eq_true rfl) ?_
  intro p e s m below meth c A hC hr hin
  have hC : Cx p s m _ meth c E A cX9_credit 2 "CookieServerModel" := hC
  rw [wp_X9_credit] at hw
  refine V_cast [(0, .ref h0), (1, .int p1)] [] [(h0, .inr (8, [.ref h1, .ref h2, .int n_saved, .ref h3, .long n_hash])), (h1, .inl (E.2.1, 404, .inl a_now)), (h2, .inl (E.2.1, 1212, .inl a_past)), (h3, .inl (E.2.1, 9, .inl a_errors))] [0, 1] [0, 1, 2, 3] rfl rfl rfl rfl ?_
  refine V_iload_n hC 1 rfl rfl dX9_credit_0 ?_
  refine V_callS hC (wr := [(h0, .inr (8, [.ref h1, .ref h2, .int n_saved, .ref h3, .long n_hash])), (h1, .inl (E.2.1, 404, .inl a_now)), (h2, .inl (E.2.1, 1212, .inl a_past)), (h3, .inl (E.2.1, 9, .inl a_errors))]) 1 [.int p1] [] (ct_X9_isClient l E p1 _ hw) wd_799 wd_40 wd_797 wd_798 (by decide +kernel) rfl ⟨Nat.le_of_ble_eq_true rfl, Nat.le_of_ble_eq_true rfl⟩ [] [0, 1, 2, 3] rfl rfl rfl rfl (by decide) rfl (Nat.le_of_ble_eq_true rfl) ⟨Nat.le_of_ble_eq_true rfl, Nat.le_of_ble_eq_true rfl⟩ dX9_credit_1 (fun v ws' hp => ?_)
  obtain ⟨r1, rfl, rfl, hw⟩ := hp
  refine V_cast [(0, .ref h0), (1, .int p1)] [.int r1] [(h0, .inr (8, [.ref h1, .ref h2, .int n_saved, .ref h3, .long n_hash])), (h1, .inl (E.2.1, 404, .inl a_now)), (h2, .inl (E.2.1, 1212, .inl a_past)), (h3, .inl (E.2.1, 9, .inl a_errors))] [0, 1] [0, 1, 2, 3] rfl rfl rfl rfl ?_
  refine V_if_eq hC 20 (by decide) dX9_credit_4 (fun c2 => ?_) (fun c2 => ?_)
  · have hw := hw.1 c2
    refine V_aload_n hC 0 rfl rfl dX9_credit_20 ?_
    refine V_bipush hC (-2) dX9_credit_21 (by decide) ?_
    refine V_callV hC (wr := []) 1 [.int (-2)] [] (ct_X9_fails l E h0 h1 h2 h3 a_now a_past n_saved a_errors n_hash (-2) _ hw) wd_634 wd_40 wd_631 wd_633 wd_12 (by decide +kernel) rfl ⟨Nat.le_of_ble_eq_true rfl, Nat.le_of_ble_eq_true rfl⟩ [0, 1, 2, 3] [] rfl rfl rfl rfl (by decide) rfl rfl rfl (Nat.le_of_ble_eq_true rfl) ⟨Nat.le_of_ble_eq_true rfl, Nat.le_of_ble_eq_true rfl⟩ dX9_credit_23 (fun v ws' hp => ?_)
    obtain ⟨r3, g4, rfl, rfl, hw⟩ := hp
    refine V_cast [(0, .ref h0), (1, .int p1)] [.int r3] [(h0, .inr (8, [.ref h1, .ref h2, .int n_saved, .ref h3, .long n_hash])), (h1, .inl (E.2.1, 404, .inl a_now)), (h2, .inl (E.2.1, 1212, .inl a_past)), (h3, .inl (E.2.1, 9, .inl g4))] [0, 1] [0, 1, 2, 3] rfl rfl rfl rfl ?_
    exact V_iret hC hr ⟨r3, g4, rfl, rfl, hw⟩ dX9_credit_26
  · have hw := hw.2 c2
    refine V_aload_n hC 0 rfl rfl dX9_credit_7 ?_
    refine V_get hC inX9 rfl 0 (by decide) wd_611 0 rfl rfl dX9_credit_8 ?_
    refine V_sipush hC 372 dX9_credit_11 (by decide) ?_
    refine V_iload_n hC 1 rfl rfl dX9_credit_14 ?_
    refine V_iadd hC dX9_credit_15 ?_
    refine V_iald hC _ rfl 1 rfl hw.1 dX9_credit_16 ?_
    have hw := hw.2
    refine V_goto hC 26 (by decide) dX9_credit_17 ?_
    exact V_iret hC hr ⟨a_now (Int32.toNatClampNeg (372 + p1)), a_errors, rfl, rfl, hw⟩ dX9_credit_26
abbrev po_X9_served (E : EN) (h0 : Nat) (h1 : Nat) (h2 : Nat) (h3 : Nat) (a_now : Nat → Int32) (a_past : Nat → Int32) (n_saved : Int32) (n_hash : Int64) (K : Int32 → (Nat → Int32) → Prop) : Option Value → va_W → Prop := fun v ws' => ∃ (r0 : Int32) (a_errors : Nat → Int32), v = some (.int r0) ∧ ws' = [(h0, .inr (8, [.ref h1, .ref h2, .int n_saved, .ref h3, .long n_hash])), (h1, .inl (E.2.1, 404, .inl a_now)), (h2, .inl (E.2.1, 1212, .inl a_past)), (h3, .inl (E.2.1, 9, .inl a_errors))] ∧ K r0 a_errors
def wp_X9_served (a_now : Nat → Int32) (a_past : Nat → Int32) (n_saved : Int32) (a_errors : Nat → Int32) (n_hash : Int64) (p1 : Int32) (K : Int32 → (Nat → Int32) → Prop) : Prop := (wp_X9_isClient p1 (fun (r1 : Int32) => ((r1 = 0 → (wp_X9_fails a_now a_past n_saved a_errors n_hash (-2) (fun (r3 : Int32) (g4 : Nat → Int32) => K r3 g4))) ∧ (¬ (r1 = 0) → (vp_in (388 + p1) 404 ∧ K (a_now (Int32.toNatClampNeg (388 + p1))) a_errors)))))
set_option maxRecDepth 100000 in
set_option maxHeartbeats 4000000 in
theorem ct_X9_served (l : Launch) (E : EN) (h0 : Nat) (h1 : Nat) (h2 : Nat) (h3 : Nat) (a_now : Nat → Int32) (a_past : Nat → Int32) (n_saved : Int32) (a_errors : Nat → Int32) (n_hash : Int64) (p1 : Int32) (K : Int32 → (Nat → Int32) → Prop) (hw : wp_X9_served a_now a_past n_saved a_errors n_hash p1 K) : Con l yX9_served cX9_served 2 (some .int) { frames := 2, cells := 0, slots := 0, locals := 42 } E [.ref h0, .int p1] [(h0, .inr (8, [.ref h1, .ref h2, .int n_saved, .ref h3, .long n_hash])), (h1, .inl (E.2.1, 404, .inl a_now)), (h2, .inl (E.2.1, 1212, .inl a_past)), (h3, .inl (E.2.1, 9, .inl a_errors))] (po_X9_served E h0 h1 h2 h3 a_now a_past n_saved n_hash K) := by
  refine Con.mk (by decide +kernel) (Nat.le_of_ble_eq_true rfl) ?_
  intro p e s m below meth c A hC hr hin
  have hC : Cx p s m _ meth c E A cX9_served 2 "CookieServerModel" := hC
  rw [wp_X9_served] at hw
  refine V_cast [(0, .ref h0), (1, .int p1)] [] [(h0, .inr (8, [.ref h1, .ref h2, .int n_saved, .ref h3, .long n_hash])), (h1, .inl (E.2.1, 404, .inl a_now)), (h2, .inl (E.2.1, 1212, .inl a_past)), (h3, .inl (E.2.1, 9, .inl a_errors))] [0, 1] [0, 1, 2, 3] rfl rfl rfl rfl ?_
  refine V_iload_n hC 1 rfl rfl dX9_served_0 ?_
  refine V_callS hC (wr := [(h0, .inr (8, [.ref h1, .ref h2, .int n_saved, .ref h3, .long n_hash])), (h1, .inl (E.2.1, 404, .inl a_now)), (h2, .inl (E.2.1, 1212, .inl a_past)), (h3, .inl (E.2.1, 9, .inl a_errors))]) 1 [.int p1] [] (ct_X9_isClient l E p1 _ hw) wd_799 wd_40 wd_797 wd_798 (by decide +kernel) rfl ⟨Nat.le_of_ble_eq_true rfl, Nat.le_of_ble_eq_true rfl⟩ [] [0, 1, 2, 3] rfl rfl rfl rfl (by decide) rfl (Nat.le_of_ble_eq_true rfl) ⟨Nat.le_of_ble_eq_true rfl, Nat.le_of_ble_eq_true rfl⟩ dX9_served_1 (fun v ws' hp => ?_)
  obtain ⟨r1, rfl, rfl, hw⟩ := hp
  refine V_cast [(0, .ref h0), (1, .int p1)] [.int r1] [(h0, .inr (8, [.ref h1, .ref h2, .int n_saved, .ref h3, .long n_hash])), (h1, .inl (E.2.1, 404, .inl a_now)), (h2, .inl (E.2.1, 1212, .inl a_past)), (h3, .inl (E.2.1, 9, .inl a_errors))] [0, 1] [0, 1, 2, 3] rfl rfl rfl rfl ?_
  refine V_if_eq hC 20 (by decide) dX9_served_4 (fun c2 => ?_) (fun c2 => ?_)
  · have hw := hw.1 c2
    refine V_aload_n hC 0 rfl rfl dX9_served_20 ?_
    refine V_bipush hC (-2) dX9_served_21 (by decide) ?_
    refine V_callV hC (wr := []) 1 [.int (-2)] [] (ct_X9_fails l E h0 h1 h2 h3 a_now a_past n_saved a_errors n_hash (-2) _ hw) wd_634 wd_40 wd_631 wd_633 wd_12 (by decide +kernel) rfl ⟨Nat.le_of_ble_eq_true rfl, Nat.le_of_ble_eq_true rfl⟩ [0, 1, 2, 3] [] rfl rfl rfl rfl (by decide) rfl rfl rfl (Nat.le_of_ble_eq_true rfl) ⟨Nat.le_of_ble_eq_true rfl, Nat.le_of_ble_eq_true rfl⟩ dX9_served_23 (fun v ws' hp => ?_)
    obtain ⟨r3, g4, rfl, rfl, hw⟩ := hp
    refine V_cast [(0, .ref h0), (1, .int p1)] [.int r3] [(h0, .inr (8, [.ref h1, .ref h2, .int n_saved, .ref h3, .long n_hash])), (h1, .inl (E.2.1, 404, .inl a_now)), (h2, .inl (E.2.1, 1212, .inl a_past)), (h3, .inl (E.2.1, 9, .inl g4))] [0, 1] [0, 1, 2, 3] rfl rfl rfl rfl ?_
    exact V_iret hC hr ⟨r3, g4, rfl, rfl, hw⟩ dX9_served_26
  · have hw := hw.2 c2
    refine V_aload_n hC 0 rfl rfl dX9_served_7 ?_
    refine V_get hC inX9 rfl 0 (by decide) wd_611 0 rfl rfl dX9_served_8 ?_
    refine V_sipush hC 388 dX9_served_11 (by decide) ?_
    refine V_iload_n hC 1 rfl rfl dX9_served_14 ?_
    refine V_iadd hC dX9_served_15 ?_
    refine V_iald hC _ rfl 1 rfl hw.1 dX9_served_16 ?_
    have hw := hw.2
    refine V_goto hC 26 (by decide) dX9_served_17 ?_
    exact V_iret hC hr ⟨a_now (Int32.toNatClampNeg (388 + p1)), a_errors, rfl, rfl, hw⟩ dX9_served_26
abbrev po_X9_quotient (E : EN) (K : Int32 → Prop) : Option Value → va_W → Prop := fun v ws' => ∃ (r0 : Int32), v = some (.int r0) ∧ ws' = [] ∧ K r0
def wpl_X9_quotient_15 (K : Int32 → Prop) : Nat → Int64 → Int64 → Int32 → Int64 → Prop
  | 0, _, _, _, _ => False
  | n9 + 1, x0, x2, x4, x5 => ((0 ≤ (lg_cmp x5 x2) → (¬ x2 = 0 ∧ (¬ x2 = 0 ∧ ((0 < (lg_cmp (2 * (jlrem (x5 <<< (Int32.toInt64 23 &&& 63)) x2)) x2) → K (Int64.toInt32 ((((Int32.toInt64 x4) <<< (Int32.toInt64 23 &&& 63)) + (((x5 <<< (Int32.toInt64 23 &&& 63)) / x2) + 1)) - 8388608))) ∧ (¬ (0 < (lg_cmp (2 * (jlrem (x5 <<< (Int32.toInt64 23 &&& 63)) x2)) x2)) → ((¬ (lg_cmp (2 * (jlrem (x5 <<< (Int32.toInt64 23 &&& 63)) x2)) x2) = 0 → K (Int64.toInt32 ((((Int32.toInt64 x4) <<< (Int32.toInt64 23 &&& 63)) + (((x5 <<< (Int32.toInt64 23 &&& 63)) / x2) + 0)) - 8388608))) ∧ ((lg_cmp (2 * (jlrem (x5 <<< (Int32.toInt64 23 &&& 63)) x2)) x2) = 0 → ((¬ (lg_cmp (jlrem ((x5 <<< (Int32.toInt64 23 &&& 63)) / x2) 2) 1) = 0 → K (Int64.toInt32 ((((Int32.toInt64 x4) <<< (Int32.toInt64 23 &&& 63)) + (((x5 <<< (Int32.toInt64 23 &&& 63)) / x2) + 0)) - 8388608))) ∧ ((lg_cmp (jlrem ((x5 <<< (Int32.toInt64 23 &&& 63)) / x2) 2) 1) = 0 → K (Int64.toInt32 ((((Int32.toInt64 x4) <<< (Int32.toInt64 23 &&& 63)) + (((x5 <<< (Int32.toInt64 23 &&& 63)) / x2) + 1)) - 8388608))))))))))) ∧ (¬ (0 ≤ (lg_cmp x5 x2)) → wpl_X9_quotient_15 K n9 x0 x2 (x4 + (-1)) (x5 * 2)))
set_option maxRecDepth 100000 in
set_option maxHeartbeats 4000000 in
theorem bl_X9_quotient_15 {p : Program} {l : Launch} {e : Env} {s : State} {m : MethodId} {args : Array Value} {below : List Frame} {meth : Method} {c : Code} {E : EN} {A : Nat → Prop} (hC : Cx p s m args meth c E A cX9_quotient 11 "CookieServerModel") (hr : meth.sig.returnType = some .int) (K : Int32 → Prop) : ∀ (n8 : Nat) (x0 : Int64) (x2 : Int64) (x4 : Int32) (x5 : Int64), wpl_X9_quotient_15 K n8 x0 x2 x4 x5 → V p l e { frames := 0, cells := 0, slots := 0, locals := 0 } s m args below meth c E A 11 0 0 (MQ below (QP E (po_X9_quotient E K) A) args s 0 0 A) 15 [(0, .long x0), (2, .long x2), (4, .int x4), (5, .long x5)] [] [] := by
  intro n8
  induction n8 with
  | zero => intro x0 x2 x4 x5 hw; rw [wpl_X9_quotient_15] at hw; exact hw.elim
  | succ n9 ih =>
    intro x0 x2 x4 x5 hw
    rw [wpl_X9_quotient_15] at hw
    refine V_lload hC 3 rfl dX9_quotient_15 ?_
    refine V_lload_n hC 1 rfl rfl dX9_quotient_17 ?_
    refine V_lcmp hC dX9_quotient_18 ?_
    refine V_if_ge hC 36 (by decide) dX9_quotient_19 (fun c2 => ?_) (fun c2 => ?_)
    · have hw := hw.1 c2
      refine V_lload hC 3 rfl dX9_quotient_36 ?_
      refine V_bipush hC 23 dX9_quotient_38 (by decide) ?_
      refine V_lshl hC dX9_quotient_40 ?_
      refine V_lload_n hC 1 rfl rfl dX9_quotient_41 ?_
      refine V_ldiv hC hw.1 dX9_quotient_42 ?_
      have hw := hw.2
      refine V_lstore hC [(7, .long ((x5 <<< (Int32.toInt64 23 &&& 63)) / x2)), (0, .long x0), (2, .long x2), (4, .int x4), (5, .long x5)] (by decide) rfl dX9_quotient_43 ?_
      refine V_ldc2 hC 2 wd_736 dX9_quotient_45 ?_
      refine V_lload hC 4 rfl dX9_quotient_48 ?_
      refine V_bipush hC 23 dX9_quotient_50 (by decide) ?_
      refine V_lshl hC dX9_quotient_52 ?_
      refine V_lload_n hC 2 rfl rfl dX9_quotient_53 ?_
      refine V_lrem hC hw.1 dX9_quotient_54 ?_
      have hw := hw.2
      refine V_lmul hC dX9_quotient_55 ?_
      refine V_lstore hC [(9, .long (2 * (jlrem (x5 <<< (Int32.toInt64 23 &&& 63)) x2))), (7, .long ((x5 <<< (Int32.toInt64 23 &&& 63)) / x2)), (0, .long x0), (2, .long x2), (4, .int x4), (5, .long x5)] (by decide) rfl dX9_quotient_56 ?_
      refine V_lload hC 1 rfl dX9_quotient_58 ?_
      refine V_lload hC 0 rfl dX9_quotient_60 ?_
      refine V_lload_n hC 3 rfl rfl dX9_quotient_62 ?_
      refine V_lcmp hC dX9_quotient_63 ?_
      refine V_if_gt hC 85 (by decide) dX9_quotient_64 (fun c3 => ?_) (fun c3 => ?_)
      · have hw := hw.1 c3
        refine V_lconst hC 1 dX9_quotient_85 (by decide) ?_
        refine V_goto hC 90 (by decide) dX9_quotient_86 ?_
        refine V_ladd hC dX9_quotient_90 ?_
        refine V_lstore hC [(7, .long (((x5 <<< (Int32.toInt64 23 &&& 63)) / x2) + 1)), (9, .long (2 * (jlrem (x5 <<< (Int32.toInt64 23 &&& 63)) x2))), (0, .long x0), (2, .long x2), (4, .int x4), (5, .long x5)] (by decide) rfl dX9_quotient_91 ?_
        refine V_iload hC 4 rfl dX9_quotient_93 ?_
        refine V_i2l hC dX9_quotient_95 ?_
        refine V_bipush hC 23 dX9_quotient_96 (by decide) ?_
        refine V_lshl hC dX9_quotient_98 ?_
        refine V_lload hC 0 rfl dX9_quotient_99 ?_
        refine V_ladd hC dX9_quotient_101 ?_
        refine V_ldc2 hC 8388608 wd_835 dX9_quotient_102 ?_
        refine V_lsub hC dX9_quotient_105 ?_
        refine V_l2i hC dX9_quotient_106 ?_
        exact V_iret hC hr ⟨Int64.toInt32 ((((Int32.toInt64 x4) <<< (Int32.toInt64 23 &&& 63)) + (((x5 <<< (Int32.toInt64 23 &&& 63)) / x2) + 1)) - 8388608), rfl, rfl, hw⟩ dX9_quotient_107
      · have hw := hw.2 c3
        refine V_lload hC 0 rfl dX9_quotient_67 ?_
        refine V_lload_n hC 3 rfl rfl dX9_quotient_69 ?_
        refine V_lcmp hC dX9_quotient_70 ?_
        refine V_if_ne hC 89 (by decide) dX9_quotient_71 (fun c4 => ?_) (fun c4 => ?_)
        · have hw := hw.1 c4
          refine V_lconst hC 0 dX9_quotient_89 (by decide) ?_
          refine V_ladd hC dX9_quotient_90 ?_
          refine V_lstore hC [(7, .long (((x5 <<< (Int32.toInt64 23 &&& 63)) / x2) + 0)), (9, .long (2 * (jlrem (x5 <<< (Int32.toInt64 23 &&& 63)) x2))), (0, .long x0), (2, .long x2), (4, .int x4), (5, .long x5)] (by decide) rfl dX9_quotient_91 ?_
          refine V_iload hC 4 rfl dX9_quotient_93 ?_
          refine V_i2l hC dX9_quotient_95 ?_
          refine V_bipush hC 23 dX9_quotient_96 (by decide) ?_
          refine V_lshl hC dX9_quotient_98 ?_
          refine V_lload hC 0 rfl dX9_quotient_99 ?_
          refine V_ladd hC dX9_quotient_101 ?_
          refine V_ldc2 hC 8388608 wd_835 dX9_quotient_102 ?_
          refine V_lsub hC dX9_quotient_105 ?_
          refine V_l2i hC dX9_quotient_106 ?_
          exact V_iret hC hr ⟨Int64.toInt32 ((((Int32.toInt64 x4) <<< (Int32.toInt64 23 &&& 63)) + (((x5 <<< (Int32.toInt64 23 &&& 63)) / x2) + 0)) - 8388608), rfl, rfl, hw⟩ dX9_quotient_107
        · have hw := hw.2 c4
          refine V_lload hC 1 rfl dX9_quotient_74 ?_
          refine V_ldc2 hC 2 wd_736 dX9_quotient_76 ?_
          refine V_lrem hC (by decide) dX9_quotient_79 ?_
          refine V_lconst hC 1 dX9_quotient_80 (by decide) ?_
          refine V_lcmp hC dX9_quotient_81 ?_
          refine V_if_ne hC 89 (by decide) dX9_quotient_82 (fun c5 => ?_) (fun c5 => ?_)
          · have hw := hw.1 c5
            refine V_lconst hC 0 dX9_quotient_89 (by decide) ?_
            refine V_ladd hC dX9_quotient_90 ?_
            refine V_lstore hC [(7, .long (((x5 <<< (Int32.toInt64 23 &&& 63)) / x2) + 0)), (9, .long (2 * (jlrem (x5 <<< (Int32.toInt64 23 &&& 63)) x2))), (0, .long x0), (2, .long x2), (4, .int x4), (5, .long x5)] (by decide) rfl dX9_quotient_91 ?_
            refine V_iload hC 4 rfl dX9_quotient_93 ?_
            refine V_i2l hC dX9_quotient_95 ?_
            refine V_bipush hC 23 dX9_quotient_96 (by decide) ?_
            refine V_lshl hC dX9_quotient_98 ?_
            refine V_lload hC 0 rfl dX9_quotient_99 ?_
            refine V_ladd hC dX9_quotient_101 ?_
            refine V_ldc2 hC 8388608 wd_835 dX9_quotient_102 ?_
            refine V_lsub hC dX9_quotient_105 ?_
            refine V_l2i hC dX9_quotient_106 ?_
            exact V_iret hC hr ⟨Int64.toInt32 ((((Int32.toInt64 x4) <<< (Int32.toInt64 23 &&& 63)) + (((x5 <<< (Int32.toInt64 23 &&& 63)) / x2) + 0)) - 8388608), rfl, rfl, hw⟩ dX9_quotient_107
          · have hw := hw.2 c5
            refine V_lconst hC 1 dX9_quotient_85 (by decide) ?_
            refine V_goto hC 90 (by decide) dX9_quotient_86 ?_
            refine V_ladd hC dX9_quotient_90 ?_
            refine V_lstore hC [(7, .long (((x5 <<< (Int32.toInt64 23 &&& 63)) / x2) + 1)), (9, .long (2 * (jlrem (x5 <<< (Int32.toInt64 23 &&& 63)) x2))), (0, .long x0), (2, .long x2), (4, .int x4), (5, .long x5)] (by decide) rfl dX9_quotient_91 ?_
            refine V_iload hC 4 rfl dX9_quotient_93 ?_
            refine V_i2l hC dX9_quotient_95 ?_
            refine V_bipush hC 23 dX9_quotient_96 (by decide) ?_
            refine V_lshl hC dX9_quotient_98 ?_
            refine V_lload hC 0 rfl dX9_quotient_99 ?_
            refine V_ladd hC dX9_quotient_101 ?_
            refine V_ldc2 hC 8388608 wd_835 dX9_quotient_102 ?_
            refine V_lsub hC dX9_quotient_105 ?_
            refine V_l2i hC dX9_quotient_106 ?_
            exact V_iret hC hr ⟨Int64.toInt32 ((((Int32.toInt64 x4) <<< (Int32.toInt64 23 &&& 63)) + (((x5 <<< (Int32.toInt64 23 &&& 63)) / x2) + 1)) - 8388608), rfl, rfl, hw⟩ dX9_quotient_107
    · have hw := hw.2 c2
      refine V_lload hC 3 rfl dX9_quotient_22 ?_
      refine V_ldc2 hC 2 wd_736 dX9_quotient_24 ?_
      refine V_lmul hC dX9_quotient_27 ?_
      refine V_lstore hC [(5, .long (x5 * 2)), (0, .long x0), (2, .long x2), (4, .int x4)] (by decide) rfl dX9_quotient_28 ?_
      refine V_iinc hC (x4 + (-1)) 3 [(4, .int (x4 + (-1))), (5, .long (x5 * 2)), (0, .long x0), (2, .long x2)] rfl (congrArg (fun z => x4 + z) (by decide : Int32.ofInt (-1) = (-1 : Int32))) (by decide) rfl dX9_quotient_30 ?_
      refine V_goto hC 15 (by decide) dX9_quotient_33 ?_
      refine V_cast [(0, .long x0), (2, .long x2), (4, .int (x4 + (-1))), (5, .long (x5 * 2))] [] [] [2, 3, 0, 1] [] rfl rfl rfl rfl ?_
      exact ih x0 x2 (x4 + (-1)) (x5 * 2) hw
def wp_X9_quotient (p1 : Int64) (p2 : Int64) (K : Int32 → Prop) : Prop := ((¬ (lg_cmp p1 0) = 0 → (∃ n8 : Nat, wpl_X9_quotient_15 K n8 p1 p2 127 p1)) ∧ ((lg_cmp p1 0) = 0 → K 0))
set_option maxRecDepth 100000 in
set_option maxHeartbeats 4000000 in
theorem ct_X9_quotient (l : Launch) (E : EN) (p1 : Int64) (p2 : Int64) (K : Int32 → Prop) (hw : wp_X9_quotient p1 p2 K) : Con l yX9_quotient cX9_quotient 11 (some .int) { frames := 0, cells := 0, slots := 0, locals := 0 } E [.long p1, .long p2] [] (po_X9_quotient E K) := by
  refine Con.mk (by decide +kernel) (Nat.le_of_ble_eq_true rfl) ?_
  intro p e s m below meth c A hC hr hin
  have hC : Cx p s m _ meth c E A cX9_quotient 11 "CookieServerModel" := hC
  rw [wp_X9_quotient] at hw
  refine V_cast [(0, .long p1), (2, .long p2)] [] [] [0, 1] [] rfl rfl rfl rfl ?_
  refine V_lload_n hC 0 rfl rfl dX9_quotient_0 ?_
  refine V_lconst hC 0 dX9_quotient_1 (by decide) ?_
  refine V_lcmp hC dX9_quotient_2 ?_
  refine V_if_ne hC 8 (by decide) dX9_quotient_3 (fun c1 => ?_) (fun c1 => ?_)
  · have hw := hw.1 c1
    refine V_bipush hC 127 dX9_quotient_8 (by decide) ?_
    refine V_istore hC [(4, .int 127), (0, .long p1), (2, .long p2)] (by decide) rfl dX9_quotient_10 ?_
    refine V_lload_n hC 1 rfl rfl dX9_quotient_12 ?_
    refine V_lstore hC [(5, .long p1), (4, .int 127), (0, .long p1), (2, .long p2)] (by decide) rfl dX9_quotient_13 ?_
    refine V_cast [(0, .long p1), (2, .long p2), (4, .int 127), (5, .long p1)] [] [] [2, 3, 1, 0] [] rfl rfl rfl rfl ?_
    obtain ⟨n8, hw⟩ := hw
    exact bl_X9_quotient_15 hC hr K n8 p1 p2 127 p1 hw
  · have hw := hw.2 c1
    refine V_iconst hC 0 dX9_quotient_6 (by decide) ?_
    exact V_iret hC hr ⟨0, rfl, rfl, hw⟩ dX9_quotient_7
abbrev po_X9_shareBits (E : EN) (h0 : Nat) (h1 : Nat) (h2 : Nat) (h3 : Nat) (a_now : Nat → Int32) (a_past : Nat → Int32) (n_saved : Int32) (n_hash : Int64) (K : Int32 → (Nat → Int32) → Prop) : Option Value → va_W → Prop := fun v ws' => ∃ (r0 : Int32) (a_errors : Nat → Int32), v = some (.int r0) ∧ ws' = [(h0, .inr (8, [.ref h1, .ref h2, .int n_saved, .ref h3, .long n_hash])), (h1, .inl (E.2.1, 404, .inl a_now)), (h2, .inl (E.2.1, 1212, .inl a_past)), (h3, .inl (E.2.1, 9, .inl a_errors))] ∧ K r0 a_errors
def wpl_X9_shareBits_18 (a_now : Nat → Int32) (a_past : Nat → Int32) (n_saved : Int32) (n_hash : Int64) (K : Int32 → (Nat → Int32) → Prop) : Nat → Int32 → Int32 → Int32 → (Nat → Int32) → Prop
  | 0, _, _, _, _ => False
  | n9 + 1, x1, x2, x3, a_errors => ((16 ≤ x3 → ((¬ x2 = 0 → (vp_in (388 + x1) 404 ∧ (wp_X9_quotient (Int32.toInt64 (a_now (Int32.toNatClampNeg (388 + x1)))) (Int32.toInt64 x2) (fun (r5 : Int32) => K r5 a_errors)))) ∧ (x2 = 0 → K 0 a_errors))) ∧ (¬ (16 ≤ x3) → (vp_in (388 + x3) 404 ∧ wpl_X9_shareBits_18 a_now a_past n_saved n_hash K n9 x1 (x2 + (a_now (Int32.toNatClampNeg (388 + x3)))) (x3 + 1) a_errors)))
set_option maxRecDepth 100000 in
set_option maxHeartbeats 4000000 in
theorem bl_X9_shareBits_18 {p : Program} {l : Launch} {e : Env} {s : State} {m : MethodId} {args : Array Value} {below : List Frame} {meth : Method} {c : Code} {E : EN} {A : Nat → Prop} (hC : Cx p s m args meth c E A cX9_shareBits 4 "CookieServerModel") (hr : meth.sig.returnType = some .int) (h0 : Nat) (h1 : Nat) (h2 : Nat) (h3 : Nat) (a_now : Nat → Int32) (a_past : Nat → Int32) (n_saved : Int32) (n_hash : Int64) (K : Int32 → (Nat → Int32) → Prop) : ∀ (n8 : Nat) (x1 : Int32) (x2 : Int32) (x3 : Int32) (a_errors : Nat → Int32), wpl_X9_shareBits_18 a_now a_past n_saved n_hash K n8 x1 x2 x3 a_errors → V p l e { frames := 2, cells := 0, slots := 0, locals := 42 } s m args below meth c E A 4 0 0 (MQ below (QP E (po_X9_shareBits E h0 h1 h2 h3 a_now a_past n_saved n_hash K) A) args s 0 0 A) 18 [(0, .ref h0), (1, .int x1), (2, .int x2), (3, .int x3)] [] [(h0, .inr (8, [.ref h1, .ref h2, .int n_saved, .ref h3, .long n_hash])), (h1, .inl (E.2.1, 404, .inl a_now)), (h2, .inl (E.2.1, 1212, .inl a_past)), (h3, .inl (E.2.1, 9, .inl a_errors))] := by
  intro n8
  induction n8 with
  | zero => intro x1 x2 x3 a_errors hw; rw [wpl_X9_shareBits_18] at hw; exact hw.elim
  | succ n9 ih =>
    intro x1 x2 x3 a_errors hw
    rw [wpl_X9_shareBits_18] at hw
    refine V_iload_n hC 3 rfl rfl dX9_shareBits_18 ?_
    refine V_bipush hC 16 dX9_shareBits_19 (by decide) ?_
    refine V_icmp_ge hC 43 (by decide) dX9_shareBits_21 (fun c3 => ?_) (fun c3 => ?_)
    · have hw := hw.1 c3
      refine V_iload_n hC 2 rfl rfl dX9_shareBits_43 ?_
      refine V_if_ne hC 51 (by decide) dX9_shareBits_44 (fun c4 => ?_) (fun c4 => ?_)
      · have hw := hw.1 c4
        refine V_aload_n hC 0 rfl rfl dX9_shareBits_51 ?_
        refine V_get hC inX9 rfl 0 (by decide) wd_611 0 rfl rfl dX9_shareBits_52 ?_
        refine V_sipush hC 388 dX9_shareBits_55 (by decide) ?_
        refine V_iload_n hC 1 rfl rfl dX9_shareBits_58 ?_
        refine V_iadd hC dX9_shareBits_59 ?_
        refine V_iald hC _ rfl 1 rfl hw.1 dX9_shareBits_60 ?_
        have hw := hw.2
        refine V_i2l hC dX9_shareBits_61 ?_
        refine V_iload_n hC 2 rfl rfl dX9_shareBits_62 ?_
        refine V_i2l hC dX9_shareBits_63 ?_
        refine V_callS hC (wr := [(h0, .inr (8, [.ref h1, .ref h2, .int n_saved, .ref h3, .long n_hash])), (h1, .inl (E.2.1, 404, .inl a_now)), (h2, .inl (E.2.1, 1212, .inl a_past)), (h3, .inl (E.2.1, 9, .inl a_errors))]) 2 [.long (Int32.toInt64 (a_now (Int32.toNatClampNeg (388 + x1)))), .long (Int32.toInt64 x2)] [] (ct_X9_quotient l E (Int32.toInt64 (a_now (Int32.toNatClampNeg (388 + x1)))) (Int32.toInt64 x2) _ hw) wd_834 wd_40 wd_832 wd_833 (by decide +kernel) rfl ⟨Nat.le_of_ble_eq_true rfl, Nat.le_of_ble_eq_true rfl⟩ [] [0, 1, 2, 3] rfl rfl rfl rfl (by decide) rfl (Nat.le_of_ble_eq_true rfl) ⟨Nat.le_of_ble_eq_true rfl, Nat.le_of_ble_eq_true rfl⟩ dX9_shareBits_64 (fun v ws' hp => ?_)
        obtain ⟨r5, rfl, rfl, hw⟩ := hp
        refine V_cast [(0, .ref h0), (1, .int x1), (2, .int x2), (3, .int x3)] [.int r5] [(h0, .inr (8, [.ref h1, .ref h2, .int n_saved, .ref h3, .long n_hash])), (h1, .inl (E.2.1, 404, .inl a_now)), (h2, .inl (E.2.1, 1212, .inl a_past)), (h3, .inl (E.2.1, 9, .inl a_errors))] [0, 1, 2, 3] [0, 1, 2, 3] rfl rfl rfl rfl ?_
        exact V_iret hC hr ⟨r5, a_errors, rfl, rfl, hw⟩ dX9_shareBits_67
      · have hw := hw.2 c4
        refine V_iconst hC 0 dX9_shareBits_47 (by decide) ?_
        refine V_goto hC 67 (by decide) dX9_shareBits_48 ?_
        exact V_iret hC hr ⟨0, a_errors, rfl, rfl, hw⟩ dX9_shareBits_67
    · have hw := hw.2 c3
      refine V_iload_n hC 2 rfl rfl dX9_shareBits_24 ?_
      refine V_aload_n hC 0 rfl rfl dX9_shareBits_25 ?_
      refine V_get hC inX9 rfl 0 (by decide) wd_611 0 rfl rfl dX9_shareBits_26 ?_
      refine V_sipush hC 388 dX9_shareBits_29 (by decide) ?_
      refine V_iload_n hC 3 rfl rfl dX9_shareBits_32 ?_
      refine V_iadd hC dX9_shareBits_33 ?_
      refine V_iald hC _ rfl 1 rfl hw.1 dX9_shareBits_34 ?_
      have hw := hw.2
      refine V_iadd hC dX9_shareBits_35 ?_
      refine V_istore_n hC [(2, .int (x2 + (a_now (Int32.toNatClampNeg (388 + x3))))), (0, .ref h0), (1, .int x1), (3, .int x3)] rfl (by decide) rfl dX9_shareBits_36 ?_
      refine V_iinc hC (x3 + 1) 3 [(3, .int (x3 + 1)), (2, .int (x2 + (a_now (Int32.toNatClampNeg (388 + x3))))), (0, .ref h0), (1, .int x1)] rfl (congrArg (fun z => x3 + z) (by decide : Int32.ofInt (1) = (1 : Int32))) (by decide) rfl dX9_shareBits_37 ?_
      refine V_goto hC 18 (by decide) dX9_shareBits_40 ?_
      refine V_cast [(0, .ref h0), (1, .int x1), (2, .int (x2 + (a_now (Int32.toNatClampNeg (388 + x3))))), (3, .int (x3 + 1))] [] [(h0, .inr (8, [.ref h1, .ref h2, .int n_saved, .ref h3, .long n_hash])), (h1, .inl (E.2.1, 404, .inl a_now)), (h2, .inl (E.2.1, 1212, .inl a_past)), (h3, .inl (E.2.1, 9, .inl a_errors))] [2, 3, 1, 0] [0, 1, 2, 3] rfl rfl rfl rfl ?_
      exact ih x1 (x2 + (a_now (Int32.toNatClampNeg (388 + x3)))) (x3 + 1) a_errors hw
def wp_X9_shareBits (a_now : Nat → Int32) (a_past : Nat → Int32) (n_saved : Int32) (a_errors : Nat → Int32) (n_hash : Int64) (p1 : Int32) (K : Int32 → (Nat → Int32) → Prop) : Prop := (wp_X9_isClient p1 (fun (r1 : Int32) => ((¬ r1 = 0 → (∃ n8 : Nat, wpl_X9_shareBits_18 a_now a_past n_saved n_hash K n8 p1 0 0 a_errors)) ∧ (r1 = 0 → (wp_X9_fails a_now a_past n_saved a_errors n_hash (-2) (fun (r6 : Int32) (g7 : Nat → Int32) => K r6 g7))))))
set_option maxRecDepth 100000 in
set_option maxHeartbeats 4000000 in
theorem ct_X9_shareBits (l : Launch) (E : EN) (h0 : Nat) (h1 : Nat) (h2 : Nat) (h3 : Nat) (a_now : Nat → Int32) (a_past : Nat → Int32) (n_saved : Int32) (a_errors : Nat → Int32) (n_hash : Int64) (p1 : Int32) (K : Int32 → (Nat → Int32) → Prop) (hw : wp_X9_shareBits a_now a_past n_saved a_errors n_hash p1 K) : Con l yX9_shareBits cX9_shareBits 4 (some .int) { frames := 2, cells := 0, slots := 0, locals := 42 } E [.ref h0, .int p1] [(h0, .inr (8, [.ref h1, .ref h2, .int n_saved, .ref h3, .long n_hash])), (h1, .inl (E.2.1, 404, .inl a_now)), (h2, .inl (E.2.1, 1212, .inl a_past)), (h3, .inl (E.2.1, 9, .inl a_errors))] (po_X9_shareBits E h0 h1 h2 h3 a_now a_past n_saved n_hash K) := by
  refine Con.mk (by decide +kernel) (Nat.le_of_ble_eq_true rfl) ?_
  intro p e s m below meth c A hC hr hin
  have hC : Cx p s m _ meth c E A cX9_shareBits 4 "CookieServerModel" := hC
  rw [wp_X9_shareBits] at hw
  refine V_cast [(0, .ref h0), (1, .int p1)] [] [(h0, .inr (8, [.ref h1, .ref h2, .int n_saved, .ref h3, .long n_hash])), (h1, .inl (E.2.1, 404, .inl a_now)), (h2, .inl (E.2.1, 1212, .inl a_past)), (h3, .inl (E.2.1, 9, .inl a_errors))] [0, 1] [0, 1, 2, 3] rfl rfl rfl rfl ?_
  refine V_iload_n hC 1 rfl rfl dX9_shareBits_0 ?_
  refine V_callS hC (wr := [(h0, .inr (8, [.ref h1, .ref h2, .int n_saved, .ref h3, .long n_hash])), (h1, .inl (E.2.1, 404, .inl a_now)), (h2, .inl (E.2.1, 1212, .inl a_past)), (h3, .inl (E.2.1, 9, .inl a_errors))]) 1 [.int p1] [] (ct_X9_isClient l E p1 _ hw) wd_799 wd_40 wd_797 wd_798 (by decide +kernel) rfl ⟨Nat.le_of_ble_eq_true rfl, Nat.le_of_ble_eq_true rfl⟩ [] [0, 1, 2, 3] rfl rfl rfl rfl (by decide) rfl (Nat.le_of_ble_eq_true rfl) ⟨Nat.le_of_ble_eq_true rfl, Nat.le_of_ble_eq_true rfl⟩ dX9_shareBits_1 (fun v ws' hp => ?_)
  obtain ⟨r1, rfl, rfl, hw⟩ := hp
  refine V_cast [(0, .ref h0), (1, .int p1)] [.int r1] [(h0, .inr (8, [.ref h1, .ref h2, .int n_saved, .ref h3, .long n_hash])), (h1, .inl (E.2.1, 404, .inl a_now)), (h2, .inl (E.2.1, 1212, .inl a_past)), (h3, .inl (E.2.1, 9, .inl a_errors))] [0, 1] [0, 1, 2, 3] rfl rfl rfl rfl ?_
  refine V_if_ne hC 14 (by decide) dX9_shareBits_4 (fun c2 => ?_) (fun c2 => ?_)
  · have hw := hw.1 c2
    refine V_iconst hC 0 dX9_shareBits_14 (by decide) ?_
    refine V_istore_n hC [(2, .int 0), (0, .ref h0), (1, .int p1)] rfl (by decide) rfl dX9_shareBits_15 ?_
    refine V_iconst hC 0 dX9_shareBits_16 (by decide) ?_
    refine V_istore_n hC [(3, .int 0), (2, .int 0), (0, .ref h0), (1, .int p1)] rfl (by decide) rfl dX9_shareBits_17 ?_
    refine V_cast [(0, .ref h0), (1, .int p1), (2, .int 0), (3, .int 0)] [] [(h0, .inr (8, [.ref h1, .ref h2, .int n_saved, .ref h3, .long n_hash])), (h1, .inl (E.2.1, 404, .inl a_now)), (h2, .inl (E.2.1, 1212, .inl a_past)), (h3, .inl (E.2.1, 9, .inl a_errors))] [2, 3, 1, 0] [0, 1, 2, 3] rfl rfl rfl rfl ?_
    obtain ⟨n8, hw⟩ := hw
    exact bl_X9_shareBits_18 hC hr h0 h1 h2 h3 a_now a_past n_saved n_hash K n8 p1 0 0 a_errors hw
  · have hw := hw.2 c2
    refine V_aload_n hC 0 rfl rfl dX9_shareBits_7 ?_
    refine V_bipush hC (-2) dX9_shareBits_8 (by decide) ?_
    refine V_callV hC (wr := []) 1 [.int (-2)] [] (ct_X9_fails l E h0 h1 h2 h3 a_now a_past n_saved a_errors n_hash (-2) _ hw) wd_634 wd_40 wd_631 wd_633 wd_12 (by decide +kernel) rfl ⟨Nat.le_of_ble_eq_true rfl, Nat.le_of_ble_eq_true rfl⟩ [0, 1, 2, 3] [] rfl rfl rfl rfl (by decide) rfl rfl rfl (Nat.le_of_ble_eq_true rfl) ⟨Nat.le_of_ble_eq_true rfl, Nat.le_of_ble_eq_true rfl⟩ dX9_shareBits_10 (fun v ws' hp => ?_)
    obtain ⟨r6, g7, rfl, rfl, hw⟩ := hp
    refine V_cast [(0, .ref h0), (1, .int p1)] [.int r6] [(h0, .inr (8, [.ref h1, .ref h2, .int n_saved, .ref h3, .long n_hash])), (h1, .inl (E.2.1, 404, .inl a_now)), (h2, .inl (E.2.1, 1212, .inl a_past)), (h3, .inl (E.2.1, 9, .inl g7))] [0, 1] [0, 1, 2, 3] rfl rfl rfl rfl ?_
    exact V_iret hC hr ⟨r6, g7, rfl, rfl, hw⟩ dX9_shareBits_13
abbrev po_X9_errorCount (E : EN) (h0 : Nat) (h1 : Nat) (h2 : Nat) (h3 : Nat) (a_now : Nat → Int32) (a_past : Nat → Int32) (n_saved : Int32) (n_hash : Int64) (K : Int32 → (Nat → Int32) → Prop) : Option Value → va_W → Prop := fun v ws' => ∃ (r0 : Int32) (a_errors : Nat → Int32), v = some (.int r0) ∧ ws' = [(h0, .inr (8, [.ref h1, .ref h2, .int n_saved, .ref h3, .long n_hash])), (h1, .inl (E.2.1, 404, .inl a_now)), (h2, .inl (E.2.1, 1212, .inl a_past)), (h3, .inl (E.2.1, 9, .inl a_errors))] ∧ K r0 a_errors
def wp_X9_errorCount (a_now : Nat → Int32) (a_past : Nat → Int32) (n_saved : Int32) (a_errors : Nat → Int32) (n_hash : Int64) (p1 : Int32) (K : Int32 → (Nat → Int32) → Prop) : Prop := (wp_X9_within p1 (-10) (-2) (fun (r1 : Int32) => ((r1 = 0 → (wp_X9_fails a_now a_past n_saved a_errors n_hash (-2) (fun (r3 : Int32) (g4 : Nat → Int32) => K r3 g4))) ∧ (¬ (r1 = 0) → (vp_in ((-2) - p1) 9 ∧ K (a_errors (Int32.toNatClampNeg ((-2) - p1))) a_errors)))))
set_option maxRecDepth 100000 in
set_option maxHeartbeats 4000000 in
theorem ct_X9_errorCount (l : Launch) (E : EN) (h0 : Nat) (h1 : Nat) (h2 : Nat) (h3 : Nat) (a_now : Nat → Int32) (a_past : Nat → Int32) (n_saved : Int32) (a_errors : Nat → Int32) (n_hash : Int64) (p1 : Int32) (K : Int32 → (Nat → Int32) → Prop) (hw : wp_X9_errorCount a_now a_past n_saved a_errors n_hash p1 K) : Con l yX9_errorCount cX9_errorCount 2 (some .int) { frames := 1, cells := 0, slots := 0, locals := 22 } E [.ref h0, .int p1] [(h0, .inr (8, [.ref h1, .ref h2, .int n_saved, .ref h3, .long n_hash])), (h1, .inl (E.2.1, 404, .inl a_now)), (h2, .inl (E.2.1, 1212, .inl a_past)), (h3, .inl (E.2.1, 9, .inl a_errors))] (po_X9_errorCount E h0 h1 h2 h3 a_now a_past n_saved n_hash K) := by
  refine Con.mk (by decide +kernel) (Nat.le_of_ble_eq_true rfl) ?_
  intro p e s m below meth c A hC hr hin
  have hC : Cx p s m _ meth c E A cX9_errorCount 2 "CookieServerModel" := hC
  rw [wp_X9_errorCount] at hw
  refine V_cast [(0, .ref h0), (1, .int p1)] [] [(h0, .inr (8, [.ref h1, .ref h2, .int n_saved, .ref h3, .long n_hash])), (h1, .inl (E.2.1, 404, .inl a_now)), (h2, .inl (E.2.1, 1212, .inl a_past)), (h3, .inl (E.2.1, 9, .inl a_errors))] [0, 1] [0, 1, 2, 3] rfl rfl rfl rfl ?_
  refine V_iload_n hC 1 rfl rfl dX9_errorCount_0 ?_
  refine V_bipush hC (-10) dX9_errorCount_1 (by decide) ?_
  refine V_bipush hC (-2) dX9_errorCount_3 (by decide) ?_
  refine V_callS hC (wr := [(h0, .inr (8, [.ref h1, .ref h2, .int n_saved, .ref h3, .long n_hash])), (h1, .inl (E.2.1, 404, .inl a_now)), (h2, .inl (E.2.1, 1212, .inl a_past)), (h3, .inl (E.2.1, 9, .inl a_errors))]) 3 [.int p1, .int (-10), .int (-2)] [] (ct_X9_within l E p1 (-10) (-2) _ hw) wd_641 wd_40 wd_639 wd_640 (by decide +kernel) rfl ⟨Nat.le_of_ble_eq_true rfl, Nat.le_of_ble_eq_true rfl⟩ [] [0, 1, 2, 3] rfl rfl rfl rfl (by decide) rfl (Nat.le_of_ble_eq_true rfl) ⟨Nat.le_of_ble_eq_true rfl, Nat.le_of_ble_eq_true rfl⟩ dX9_errorCount_5 (fun v ws' hp => ?_)
  obtain ⟨r1, rfl, rfl, hw⟩ := hp
  refine V_cast [(0, .ref h0), (1, .int p1)] [.int r1] [(h0, .inr (8, [.ref h1, .ref h2, .int n_saved, .ref h3, .long n_hash])), (h1, .inl (E.2.1, 404, .inl a_now)), (h2, .inl (E.2.1, 1212, .inl a_past)), (h3, .inl (E.2.1, 9, .inl a_errors))] [0, 1] [0, 1, 2, 3] rfl rfl rfl rfl ?_
  refine V_if_eq hC 23 (by decide) dX9_errorCount_8 (fun c2 => ?_) (fun c2 => ?_)
  · have hw := hw.1 c2
    refine V_aload_n hC 0 rfl rfl dX9_errorCount_23 ?_
    refine V_bipush hC (-2) dX9_errorCount_24 (by decide) ?_
    refine V_callV hC (wr := []) 1 [.int (-2)] [] (ct_X9_fails l E h0 h1 h2 h3 a_now a_past n_saved a_errors n_hash (-2) _ hw) wd_634 wd_40 wd_631 wd_633 wd_12 (by decide +kernel) rfl ⟨Nat.le_of_ble_eq_true rfl, Nat.le_of_ble_eq_true rfl⟩ [0, 1, 2, 3] [] rfl rfl rfl rfl (by decide) rfl rfl rfl (Nat.le_of_ble_eq_true rfl) ⟨Nat.le_of_ble_eq_true rfl, Nat.le_of_ble_eq_true rfl⟩ dX9_errorCount_26 (fun v ws' hp => ?_)
    obtain ⟨r3, g4, rfl, rfl, hw⟩ := hp
    refine V_cast [(0, .ref h0), (1, .int p1)] [.int r3] [(h0, .inr (8, [.ref h1, .ref h2, .int n_saved, .ref h3, .long n_hash])), (h1, .inl (E.2.1, 404, .inl a_now)), (h2, .inl (E.2.1, 1212, .inl a_past)), (h3, .inl (E.2.1, 9, .inl g4))] [0, 1] [0, 1, 2, 3] rfl rfl rfl rfl ?_
    exact V_iret hC hr ⟨r3, g4, rfl, rfl, hw⟩ dX9_errorCount_29
  · have hw := hw.2 c2
    refine V_aload_n hC 0 rfl rfl dX9_errorCount_11 ?_
    refine V_get hC inX9 rfl 3 (by decide) wd_614 0 rfl rfl dX9_errorCount_12 ?_
    refine V_bipush hC (-2) dX9_errorCount_15 (by decide) ?_
    refine V_iload_n hC 1 rfl rfl dX9_errorCount_17 ?_
    refine V_isub hC dX9_errorCount_18 ?_
    refine V_iald hC _ rfl 3 rfl hw.1 dX9_errorCount_19 ?_
    have hw := hw.2
    refine V_goto hC 29 (by decide) dX9_errorCount_20 ?_
    exact V_iret hC hr ⟨a_errors (Int32.toNatClampNeg ((-2) - p1)), a_errors, rfl, rfl, hw⟩ dX9_errorCount_29
abbrev po_X9_mix (E : EN) (h0 : Nat) (h1 : Nat) (h2 : Nat) (h3 : Nat) (a_now : Nat → Int32) (a_past : Nat → Int32) (n_saved : Int32) (a_errors : Nat → Int32) (K : Int64 → Prop) : Option Value → va_W → Prop := fun v ws' => ∃ (n_hash : Int64), v = none ∧ ws' = [(h0, .inr (8, [.ref h1, .ref h2, .int n_saved, .ref h3, .long n_hash])), (h1, .inl (E.2.1, 404, .inl a_now)), (h2, .inl (E.2.1, 1212, .inl a_past)), (h3, .inl (E.2.1, 9, .inl a_errors))] ∧ K n_hash
def wp_X9_mix (a_now : Nat → Int32) (a_past : Nat → Int32) (n_saved : Int32) (a_errors : Nat → Int32) (n_hash : Int64) (p1 : Int32) (K : Int64 → Prop) : Prop := K ((31 * n_hash) + (Int32.toInt64 p1))
set_option maxRecDepth 100000 in
set_option maxHeartbeats 4000000 in
theorem ct_X9_mix (l : Launch) (E : EN) (h0 : Nat) (h1 : Nat) (h2 : Nat) (h3 : Nat) (a_now : Nat → Int32) (a_past : Nat → Int32) (n_saved : Int32) (a_errors : Nat → Int32) (n_hash : Int64) (p1 : Int32) (K : Int64 → Prop) (hw : wp_X9_mix a_now a_past n_saved a_errors n_hash p1 K) : Con l yX9_mix cX9_mix 2 (none) { frames := 0, cells := 0, slots := 0, locals := 0 } E [.ref h0, .int p1] [(h0, .inr (8, [.ref h1, .ref h2, .int n_saved, .ref h3, .long n_hash])), (h1, .inl (E.2.1, 404, .inl a_now)), (h2, .inl (E.2.1, 1212, .inl a_past)), (h3, .inl (E.2.1, 9, .inl a_errors))] (po_X9_mix E h0 h1 h2 h3 a_now a_past n_saved a_errors K) := by
  refine Con.mk (by decide +kernel) (Nat.le_of_ble_eq_true rfl) ?_
  intro p e s m below meth c A hC hr hin
  have hC : Cx p s m _ meth c E A cX9_mix 2 "CookieServerModel" := hC
  rw [wp_X9_mix] at hw
  refine V_cast [(0, .ref h0), (1, .int p1)] [] [(h0, .inr (8, [.ref h1, .ref h2, .int n_saved, .ref h3, .long n_hash])), (h1, .inl (E.2.1, 404, .inl a_now)), (h2, .inl (E.2.1, 1212, .inl a_past)), (h3, .inl (E.2.1, 9, .inl a_errors))] [0, 1] [0, 1, 2, 3] rfl rfl rfl rfl ?_
  refine V_aload_n hC 0 rfl rfl dX9_mix_0 ?_
  refine V_ldc2 hC 31 wd_849 dX9_mix_1 ?_
  refine V_aload_n hC 0 rfl rfl dX9_mix_4 ?_
  refine V_get hC inX9 rfl 4 (by decide) wd_615 0 rfl rfl dX9_mix_5 ?_
  refine V_lmul hC dX9_mix_8 ?_
  refine V_iload_n hC 1 rfl rfl dX9_mix_9 ?_
  refine V_i2l hC dX9_mix_10 ?_
  refine V_ladd hC dX9_mix_11 ?_
  refine V_put hC [(h0, .inr (8, [.ref h1, .ref h2, .int n_saved, .ref h3, .long ((31 * n_hash) + (Int32.toInt64 p1))])), (h1, .inl (E.2.1, 404, .inl a_now)), (h2, .inl (E.2.1, 1212, .inl a_past)), (h3, .inl (E.2.1, 9, .inl a_errors))] inX9 tyX9_ok nmX9 rfl 4 (by decide) wd_615 rfl (ty := .long) (by decide +kernel) rfl rfl 0 rfl (Nat.le_of_ble_eq_true rfl) rfl dX9_mix_12 ?_
  exact V_vret hC hr ⟨(31 * n_hash) + (Int32.toInt64 p1), rfl, rfl, hw⟩ dX9_mix_15
abbrev po_X9_mixClient (E : EN) (h0 : Nat) (h1 : Nat) (h2 : Nat) (h3 : Nat) (a_now : Nat → Int32) (a_past : Nat → Int32) (n_saved : Int32) (a_errors : Nat → Int32) (K : Int64 → Prop) : Option Value → va_W → Prop := fun v ws' => ∃ (n_hash : Int64), v = none ∧ ws' = [(h0, .inr (8, [.ref h1, .ref h2, .int n_saved, .ref h3, .long n_hash])), (h1, .inl (E.2.1, 404, .inl a_now)), (h2, .inl (E.2.1, 1212, .inl a_past)), (h3, .inl (E.2.1, 9, .inl a_errors))] ∧ K n_hash
def wpl_X9_mixClient_16 (a_now : Nat → Int32) (a_past : Nat → Int32) (n_saved : Int32) (a_errors : Nat → Int32) (K : Int64 → Prop) : Nat → Int32 → Int32 → Int64 → Prop
  | 0, _, _, _ => False
  | n9 + 1, x1, x2, n_hash => (vp_in (228 + x1) 404 ∧ (((a_now (Int32.toNatClampNeg (228 + x1))) ≤ x2 → (vp_in (372 + x1) 404 ∧ (wp_X9_mix a_now a_past n_saved a_errors n_hash (a_now (Int32.toNatClampNeg (372 + x1))) (fun (g3 : Int64) => (vp_in (388 + x1) 404 ∧ (wp_X9_mix a_now a_past n_saved a_errors g3 (a_now (Int32.toNatClampNeg (388 + x1))) (fun (g4 : Int64) => K g4))))))) ∧ (¬ ((a_now (Int32.toNatClampNeg (228 + x1))) ≤ x2) → (vp_in ((244 + (8 * x1)) + x2) 404 ∧ (wp_X9_mix a_now a_past n_saved a_errors n_hash (a_now (Int32.toNatClampNeg ((244 + (8 * x1)) + x2))) (fun (g5 : Int64) => wpl_X9_mixClient_16 a_now a_past n_saved a_errors K n9 x1 (x2 + 1) g5))))))
set_option maxRecDepth 100000 in
set_option maxHeartbeats 4000000 in
theorem bl_X9_mixClient_16 {p : Program} {l : Launch} {e : Env} {s : State} {m : MethodId} {args : Array Value} {below : List Frame} {meth : Method} {c : Code} {E : EN} {A : Nat → Prop} (hC : Cx p s m args meth c E A cX9_mixClient 3 "CookieServerModel") (hr : meth.sig.returnType = none) (h0 : Nat) (h1 : Nat) (h2 : Nat) (h3 : Nat) (a_now : Nat → Int32) (a_past : Nat → Int32) (n_saved : Int32) (a_errors : Nat → Int32) (K : Int64 → Prop) : ∀ (n8 : Nat) (x1 : Int32) (x2 : Int32) (n_hash : Int64), wpl_X9_mixClient_16 a_now a_past n_saved a_errors K n8 x1 x2 n_hash → V p l e { frames := 1, cells := 0, slots := 0, locals := 21 } s m args below meth c E A 3 0 0 (MQ below (QP E (po_X9_mixClient E h0 h1 h2 h3 a_now a_past n_saved a_errors K) A) args s 0 0 A) 16 [(0, .ref h0), (1, .int x1), (2, .int x2)] [] [(h0, .inr (8, [.ref h1, .ref h2, .int n_saved, .ref h3, .long n_hash])), (h1, .inl (E.2.1, 404, .inl a_now)), (h2, .inl (E.2.1, 1212, .inl a_past)), (h3, .inl (E.2.1, 9, .inl a_errors))] := by
  intro n8
  induction n8 with
  | zero => intro x1 x2 n_hash hw; rw [wpl_X9_mixClient_16] at hw; exact hw.elim
  | succ n9 ih =>
    intro x1 x2 n_hash hw
    rw [wpl_X9_mixClient_16] at hw
    refine V_iload_n hC 2 rfl rfl dX9_mixClient_16 ?_
    refine V_aload_n hC 0 rfl rfl dX9_mixClient_17 ?_
    refine V_get hC inX9 rfl 0 (by decide) wd_611 0 rfl rfl dX9_mixClient_18 ?_
    refine V_sipush hC 228 dX9_mixClient_21 (by decide) ?_
    refine V_iload_n hC 1 rfl rfl dX9_mixClient_24 ?_
    refine V_iadd hC dX9_mixClient_25 ?_
    refine V_iald hC _ rfl 1 rfl hw.1 dX9_mixClient_26 ?_
    have hw := hw.2
    refine V_icmp_ge hC 55 (by decide) dX9_mixClient_27 (fun c2 => ?_) (fun c2 => ?_)
    · have hw := hw.1 c2
      refine V_aload_n hC 0 rfl rfl dX9_mixClient_55 ?_
      refine V_aload_n hC 0 rfl rfl dX9_mixClient_56 ?_
      refine V_get hC inX9 rfl 0 (by decide) wd_611 0 rfl rfl dX9_mixClient_57 ?_
      refine V_sipush hC 372 dX9_mixClient_60 (by decide) ?_
      refine V_iload_n hC 1 rfl rfl dX9_mixClient_63 ?_
      refine V_iadd hC dX9_mixClient_64 ?_
      refine V_iald hC _ rfl 1 rfl hw.1 dX9_mixClient_65 ?_
      have hw := hw.2
      refine V_callV hC (wr := []) 1 [.int (a_now (Int32.toNatClampNeg (372 + x1)))] [] (ct_X9_mix l E h0 h1 h2 h3 a_now a_past n_saved a_errors n_hash (a_now (Int32.toNatClampNeg (372 + x1))) _ hw) wd_848 wd_40 wd_845 wd_847 wd_29 (by decide +kernel) rfl ⟨Nat.le_of_ble_eq_true rfl, Nat.le_of_ble_eq_true rfl⟩ [0, 1, 2, 3] [] rfl rfl rfl rfl (by decide) rfl rfl rfl (Nat.le_of_ble_eq_true rfl) ⟨Nat.le_of_ble_eq_true rfl, Nat.le_of_ble_eq_true rfl⟩ dX9_mixClient_66 (fun v ws' hp => ?_)
      obtain ⟨g3, rfl, rfl, hw⟩ := hp
      refine V_cast [(0, .ref h0), (1, .int x1), (2, .int x2)] [] [(h0, .inr (8, [.ref h1, .ref h2, .int n_saved, .ref h3, .long g3])), (h1, .inl (E.2.1, 404, .inl a_now)), (h2, .inl (E.2.1, 1212, .inl a_past)), (h3, .inl (E.2.1, 9, .inl a_errors))] [0, 1, 2] [0, 1, 2, 3] rfl rfl rfl rfl ?_
      refine V_aload_n hC 0 rfl rfl dX9_mixClient_69 ?_
      refine V_aload_n hC 0 rfl rfl dX9_mixClient_70 ?_
      refine V_get hC inX9 rfl 0 (by decide) wd_611 0 rfl rfl dX9_mixClient_71 ?_
      refine V_sipush hC 388 dX9_mixClient_74 (by decide) ?_
      refine V_iload_n hC 1 rfl rfl dX9_mixClient_77 ?_
      refine V_iadd hC dX9_mixClient_78 ?_
      refine V_iald hC _ rfl 1 rfl hw.1 dX9_mixClient_79 ?_
      have hw := hw.2
      refine V_callV hC (wr := []) 1 [.int (a_now (Int32.toNatClampNeg (388 + x1)))] [] (ct_X9_mix l E h0 h1 h2 h3 a_now a_past n_saved a_errors g3 (a_now (Int32.toNatClampNeg (388 + x1))) _ hw) wd_848 wd_40 wd_845 wd_847 wd_29 (by decide +kernel) rfl ⟨Nat.le_of_ble_eq_true rfl, Nat.le_of_ble_eq_true rfl⟩ [0, 1, 2, 3] [] rfl rfl rfl rfl (by decide) rfl rfl rfl (Nat.le_of_ble_eq_true rfl) ⟨Nat.le_of_ble_eq_true rfl, Nat.le_of_ble_eq_true rfl⟩ dX9_mixClient_80 (fun v ws' hp => ?_)
      obtain ⟨g4, rfl, rfl, hw⟩ := hp
      refine V_cast [(0, .ref h0), (1, .int x1), (2, .int x2)] [] [(h0, .inr (8, [.ref h1, .ref h2, .int n_saved, .ref h3, .long g4])), (h1, .inl (E.2.1, 404, .inl a_now)), (h2, .inl (E.2.1, 1212, .inl a_past)), (h3, .inl (E.2.1, 9, .inl a_errors))] [0, 1, 2] [0, 1, 2, 3] rfl rfl rfl rfl ?_
      exact V_vret hC hr ⟨g4, rfl, rfl, hw⟩ dX9_mixClient_83
    · have hw := hw.2 c2
      refine V_aload_n hC 0 rfl rfl dX9_mixClient_30 ?_
      refine V_aload_n hC 0 rfl rfl dX9_mixClient_31 ?_
      refine V_get hC inX9 rfl 0 (by decide) wd_611 0 rfl rfl dX9_mixClient_32 ?_
      refine V_sipush hC 244 dX9_mixClient_35 (by decide) ?_
      refine V_bipush hC 8 dX9_mixClient_38 (by decide) ?_
      refine V_iload_n hC 1 rfl rfl dX9_mixClient_40 ?_
      refine V_imul hC dX9_mixClient_41 ?_
      refine V_iadd hC dX9_mixClient_42 ?_
      refine V_iload_n hC 2 rfl rfl dX9_mixClient_43 ?_
      refine V_iadd hC dX9_mixClient_44 ?_
      refine V_iald hC _ rfl 1 rfl hw.1 dX9_mixClient_45 ?_
      have hw := hw.2
      refine V_callV hC (wr := []) 1 [.int (a_now (Int32.toNatClampNeg ((244 + (8 * x1)) + x2)))] [] (ct_X9_mix l E h0 h1 h2 h3 a_now a_past n_saved a_errors n_hash (a_now (Int32.toNatClampNeg ((244 + (8 * x1)) + x2))) _ hw) wd_848 wd_40 wd_845 wd_847 wd_29 (by decide +kernel) rfl ⟨Nat.le_of_ble_eq_true rfl, Nat.le_of_ble_eq_true rfl⟩ [0, 1, 2, 3] [] rfl rfl rfl rfl (by decide) rfl rfl rfl (Nat.le_of_ble_eq_true rfl) ⟨Nat.le_of_ble_eq_true rfl, Nat.le_of_ble_eq_true rfl⟩ dX9_mixClient_46 (fun v ws' hp => ?_)
      obtain ⟨g5, rfl, rfl, hw⟩ := hp
      refine V_cast [(0, .ref h0), (1, .int x1), (2, .int x2)] [] [(h0, .inr (8, [.ref h1, .ref h2, .int n_saved, .ref h3, .long g5])), (h1, .inl (E.2.1, 404, .inl a_now)), (h2, .inl (E.2.1, 1212, .inl a_past)), (h3, .inl (E.2.1, 9, .inl a_errors))] [0, 1, 2] [0, 1, 2, 3] rfl rfl rfl rfl ?_
      refine V_iinc hC (x2 + 1) 2 [(2, .int (x2 + 1)), (0, .ref h0), (1, .int x1)] rfl (congrArg (fun z => x2 + z) (by decide : Int32.ofInt (1) = (1 : Int32))) (by decide) rfl dX9_mixClient_49 ?_
      refine V_goto hC 16 (by decide) dX9_mixClient_52 ?_
      refine V_cast [(0, .ref h0), (1, .int x1), (2, .int (x2 + 1))] [] [(h0, .inr (8, [.ref h1, .ref h2, .int n_saved, .ref h3, .long g5])), (h1, .inl (E.2.1, 404, .inl a_now)), (h2, .inl (E.2.1, 1212, .inl a_past)), (h3, .inl (E.2.1, 9, .inl a_errors))] [1, 2, 0] [0, 1, 2, 3] rfl rfl rfl rfl ?_
      exact ih x1 (x2 + 1) g5 hw
def wp_X9_mixClient (a_now : Nat → Int32) (a_past : Nat → Int32) (n_saved : Int32) (a_errors : Nat → Int32) (n_hash : Int64) (p1 : Int32) (K : Int64 → Prop) : Prop := (vp_in (228 + p1) 404 ∧ (wp_X9_mix a_now a_past n_saved a_errors n_hash (a_now (Int32.toNatClampNeg (228 + p1))) (fun (g1 : Int64) => (∃ n8 : Nat, wpl_X9_mixClient_16 a_now a_past n_saved a_errors K n8 p1 0 g1))))
set_option maxRecDepth 100000 in
set_option maxHeartbeats 4000000 in
theorem ct_X9_mixClient (l : Launch) (E : EN) (h0 : Nat) (h1 : Nat) (h2 : Nat) (h3 : Nat) (a_now : Nat → Int32) (a_past : Nat → Int32) (n_saved : Int32) (a_errors : Nat → Int32) (n_hash : Int64) (p1 : Int32) (K : Int64 → Prop) (hw : wp_X9_mixClient a_now a_past n_saved a_errors n_hash p1 K) : Con l yX9_mixClient cX9_mixClient 3 (none) { frames := 1, cells := 0, slots := 0, locals := 21 } E [.ref h0, .int p1] [(h0, .inr (8, [.ref h1, .ref h2, .int n_saved, .ref h3, .long n_hash])), (h1, .inl (E.2.1, 404, .inl a_now)), (h2, .inl (E.2.1, 1212, .inl a_past)), (h3, .inl (E.2.1, 9, .inl a_errors))] (po_X9_mixClient E h0 h1 h2 h3 a_now a_past n_saved a_errors K) := by
  refine Con.mk (by decide +kernel) (Nat.le_of_ble_eq_true rfl) ?_
  intro p e s m below meth c A hC hr hin
  have hC : Cx p s m _ meth c E A cX9_mixClient 3 "CookieServerModel" := hC
  rw [wp_X9_mixClient] at hw
  refine V_cast [(0, .ref h0), (1, .int p1)] [] [(h0, .inr (8, [.ref h1, .ref h2, .int n_saved, .ref h3, .long n_hash])), (h1, .inl (E.2.1, 404, .inl a_now)), (h2, .inl (E.2.1, 1212, .inl a_past)), (h3, .inl (E.2.1, 9, .inl a_errors))] [0, 1] [0, 1, 2, 3] rfl rfl rfl rfl ?_
  refine V_aload_n hC 0 rfl rfl dX9_mixClient_0 ?_
  refine V_aload_n hC 0 rfl rfl dX9_mixClient_1 ?_
  refine V_get hC inX9 rfl 0 (by decide) wd_611 0 rfl rfl dX9_mixClient_2 ?_
  refine V_sipush hC 228 dX9_mixClient_5 (by decide) ?_
  refine V_iload_n hC 1 rfl rfl dX9_mixClient_8 ?_
  refine V_iadd hC dX9_mixClient_9 ?_
  refine V_iald hC _ rfl 1 rfl hw.1 dX9_mixClient_10 ?_
  have hw := hw.2
  refine V_callV hC (wr := []) 1 [.int (a_now (Int32.toNatClampNeg (228 + p1)))] [] (ct_X9_mix l E h0 h1 h2 h3 a_now a_past n_saved a_errors n_hash (a_now (Int32.toNatClampNeg (228 + p1))) _ hw) wd_848 wd_40 wd_845 wd_847 wd_29 (by decide +kernel) rfl ⟨Nat.le_of_ble_eq_true rfl, Nat.le_of_ble_eq_true rfl⟩ [0, 1, 2, 3] [] rfl rfl rfl rfl (by decide) rfl rfl rfl (Nat.le_of_ble_eq_true rfl) ⟨Nat.le_of_ble_eq_true rfl, Nat.le_of_ble_eq_true rfl⟩ dX9_mixClient_11 (fun v ws' hp => ?_)
  obtain ⟨g1, rfl, rfl, hw⟩ := hp
  refine V_cast [(0, .ref h0), (1, .int p1)] [] [(h0, .inr (8, [.ref h1, .ref h2, .int n_saved, .ref h3, .long g1])), (h1, .inl (E.2.1, 404, .inl a_now)), (h2, .inl (E.2.1, 1212, .inl a_past)), (h3, .inl (E.2.1, 9, .inl a_errors))] [0, 1] [0, 1, 2, 3] rfl rfl rfl rfl ?_
  refine V_iconst hC 0 dX9_mixClient_14 (by decide) ?_
  refine V_istore_n hC [(2, .int 0), (0, .ref h0), (1, .int p1)] rfl (by decide) rfl dX9_mixClient_15 ?_
  refine V_cast [(0, .ref h0), (1, .int p1), (2, .int 0)] [] [(h0, .inr (8, [.ref h1, .ref h2, .int n_saved, .ref h3, .long g1])), (h1, .inl (E.2.1, 404, .inl a_now)), (h2, .inl (E.2.1, 1212, .inl a_past)), (h3, .inl (E.2.1, 9, .inl a_errors))] [1, 2, 0] [0, 1, 2, 3] rfl rfl rfl rfl ?_
  obtain ⟨n8, hw⟩ := hw
  exact bl_X9_mixClient_16 hC hr h0 h1 h2 h3 a_now a_past n_saved a_errors K n8 p1 0 g1 hw
abbrev po_X9_digest (E : EN) (h0 : Nat) (h1 : Nat) (h2 : Nat) (h3 : Nat) (a_now : Nat → Int32) (a_past : Nat → Int32) (n_saved : Int32) (a_errors : Nat → Int32) (K : Int64 → Int64 → Prop) : Option Value → va_W → Prop := fun v ws' => ∃ (r0 : Int64) (n_hash : Int64), v = some (.long r0) ∧ ws' = [(h0, .inr (8, [.ref h1, .ref h2, .int n_saved, .ref h3, .long n_hash])), (h1, .inl (E.2.1, 404, .inl a_now)), (h2, .inl (E.2.1, 1212, .inl a_past)), (h3, .inl (E.2.1, 9, .inl a_errors))] ∧ K r0 n_hash
def wpl_X9_digest_281 (a_now : Nat → Int32) (a_past : Nat → Int32) (n_saved : Int32) (a_errors : Nat → Int32) (K : Int64 → Int64 → Prop) : Nat → Int32 → Int64 → Prop
  | 0, _, _ => False
  | n9 + 1, x1, n_hash => ((16 ≤ x1 → (wp_X9_mix a_now a_past n_saved a_errors n_hash n_saved (fun (g19 : Int64) => K g19 g19))) ∧ (¬ (16 ≤ x1) → (wp_X9_mixClient a_now a_past n_saved a_errors n_hash x1 (fun (g20 : Int64) => wpl_X9_digest_281 a_now a_past n_saved a_errors K n9 (x1 + 1) g20))))
set_option maxRecDepth 100000 in
set_option maxHeartbeats 4000000 in
theorem bl_X9_digest_281 {p : Program} {l : Launch} {e : Env} {s : State} {m : MethodId} {args : Array Value} {below : List Frame} {meth : Method} {c : Code} {E : EN} {A : Nat → Prop} (hC : Cx p s m args meth c E A cX9_digest 2 "CookieServerModel") (hr : meth.sig.returnType = some .long) (h0 : Nat) (h1 : Nat) (h2 : Nat) (h3 : Nat) (a_now : Nat → Int32) (a_past : Nat → Int32) (n_saved : Int32) (a_errors : Nat → Int32) (K : Int64 → Int64 → Prop) : ∀ (n8 : Nat) (x1 : Int32) (n_hash : Int64), wpl_X9_digest_281 a_now a_past n_saved a_errors K n8 x1 n_hash → V p l e { frames := 4, cells := 0, slots := 0, locals := 89 } s m args below meth c E A 2 0 0 (MQ below (QP E (po_X9_digest E h0 h1 h2 h3 a_now a_past n_saved a_errors K) A) args s 0 0 A) 281 [(0, .ref h0), (1, .int x1)] [] [(h0, .inr (8, [.ref h1, .ref h2, .int n_saved, .ref h3, .long n_hash])), (h1, .inl (E.2.1, 404, .inl a_now)), (h2, .inl (E.2.1, 1212, .inl a_past)), (h3, .inl (E.2.1, 9, .inl a_errors))] := by
  intro n8
  induction n8 with
  | zero => intro x1 n_hash hw; rw [wpl_X9_digest_281] at hw; exact hw.elim
  | succ n9 ih =>
    intro x1 n_hash hw
    rw [wpl_X9_digest_281] at hw
    refine V_iload_n hC 1 rfl rfl dX9_digest_281 ?_
    refine V_bipush hC 16 dX9_digest_282 (by decide) ?_
    refine V_icmp_ge hC 298 (by decide) dX9_digest_284 (fun c18 => ?_) (fun c18 => ?_)
    · have hw := hw.1 c18
      refine V_aload_n hC 0 rfl rfl dX9_digest_298 ?_
      refine V_aload_n hC 0 rfl rfl dX9_digest_299 ?_
      refine V_get hC inX9 rfl 2 (by decide) wd_613 0 rfl rfl dX9_digest_300 ?_
      refine V_callV hC (wr := []) 1 [.int n_saved] [] (ct_X9_mix l E h0 h1 h2 h3 a_now a_past n_saved a_errors n_hash n_saved _ hw) wd_848 wd_40 wd_845 wd_847 wd_29 (by decide +kernel) rfl ⟨Nat.le_of_ble_eq_true rfl, Nat.le_of_ble_eq_true rfl⟩ [0, 1, 2, 3] [] rfl rfl rfl rfl (by decide) rfl rfl rfl (Nat.le_of_ble_eq_true rfl) ⟨Nat.le_of_ble_eq_true rfl, Nat.le_of_ble_eq_true rfl⟩ dX9_digest_303 (fun v ws' hp => ?_)
      obtain ⟨g19, rfl, rfl, hw⟩ := hp
      refine V_cast [(0, .ref h0), (1, .int x1)] [] [(h0, .inr (8, [.ref h1, .ref h2, .int n_saved, .ref h3, .long g19])), (h1, .inl (E.2.1, 404, .inl a_now)), (h2, .inl (E.2.1, 1212, .inl a_past)), (h3, .inl (E.2.1, 9, .inl a_errors))] [0, 1] [0, 1, 2, 3] rfl rfl rfl rfl ?_
      refine V_aload_n hC 0 rfl rfl dX9_digest_306 ?_
      refine V_get hC inX9 rfl 4 (by decide) wd_615 0 rfl rfl dX9_digest_307 ?_
      exact V_lret hC hr ⟨g19, g19, rfl, rfl, hw⟩ dX9_digest_310
    · have hw := hw.2 c18
      refine V_aload_n hC 0 rfl rfl dX9_digest_287 ?_
      refine V_iload_n hC 1 rfl rfl dX9_digest_288 ?_
      refine V_callV hC (wr := []) 1 [.int x1] [] (ct_X9_mixClient l E h0 h1 h2 h3 a_now a_past n_saved a_errors n_hash x1 _ hw) wd_853 wd_40 wd_850 wd_852 wd_30 (by decide +kernel) rfl ⟨Nat.le_of_ble_eq_true rfl, Nat.le_of_ble_eq_true rfl⟩ [0, 1, 2, 3] [] rfl rfl rfl rfl (by decide) rfl rfl rfl (Nat.le_of_ble_eq_true rfl) ⟨Nat.le_of_ble_eq_true rfl, Nat.le_of_ble_eq_true rfl⟩ dX9_digest_289 (fun v ws' hp => ?_)
      obtain ⟨g20, rfl, rfl, hw⟩ := hp
      refine V_cast [(0, .ref h0), (1, .int x1)] [] [(h0, .inr (8, [.ref h1, .ref h2, .int n_saved, .ref h3, .long g20])), (h1, .inl (E.2.1, 404, .inl a_now)), (h2, .inl (E.2.1, 1212, .inl a_past)), (h3, .inl (E.2.1, 9, .inl a_errors))] [0, 1] [0, 1, 2, 3] rfl rfl rfl rfl ?_
      refine V_iinc hC (x1 + 1) 1 [(1, .int (x1 + 1)), (0, .ref h0)] rfl (congrArg (fun z => x1 + z) (by decide : Int32.ofInt (1) = (1 : Int32))) (by decide) rfl dX9_digest_292 ?_
      refine V_goto hC 281 (by decide) dX9_digest_295 ?_
      refine V_cast [(0, .ref h0), (1, .int (x1 + 1))] [] [(h0, .inr (8, [.ref h1, .ref h2, .int n_saved, .ref h3, .long g20])), (h1, .inl (E.2.1, 404, .inl a_now)), (h2, .inl (E.2.1, 1212, .inl a_past)), (h3, .inl (E.2.1, 9, .inl a_errors))] [1, 0] [0, 1, 2, 3] rfl rfl rfl rfl ?_
      exact ih (x1 + 1) g20 hw
def wpl_X9_digest_226 (a_now : Nat → Int32) (a_past : Nat → Int32) (n_saved : Int32) (a_errors : Nat → Int32) (K : Int64 → Int64 → Prop) : Nat → Int32 → Int64 → Prop
  | 0, _, _ => False
  | n9 + 1, x1, n_hash => (((a_now 4) ≤ x1 → (wp_X9_mix a_now a_past n_saved a_errors n_hash (a_now 5) (fun (g16 : Int64) => (wp_X9_mix a_now a_past n_saved a_errors g16 (a_now 6) (fun (g17 : Int64) => (∃ n8 : Nat, wpl_X9_digest_281 a_now a_past n_saved a_errors K n8 0 g17)))))) ∧ (¬ ((a_now 4) ≤ x1) → (vp_in (168 + (3 * x1)) 404 ∧ (wp_X9_mix a_now a_past n_saved a_errors n_hash (a_now (Int32.toNatClampNeg (168 + (3 * x1)))) (fun (g21 : Int64) => wpl_X9_digest_226 a_now a_past n_saved a_errors K n9 (x1 + 1) g21)))))
set_option maxRecDepth 100000 in
set_option maxHeartbeats 4000000 in
theorem bl_X9_digest_226 {p : Program} {l : Launch} {e : Env} {s : State} {m : MethodId} {args : Array Value} {below : List Frame} {meth : Method} {c : Code} {E : EN} {A : Nat → Prop} (hC : Cx p s m args meth c E A cX9_digest 2 "CookieServerModel") (hr : meth.sig.returnType = some .long) (h0 : Nat) (h1 : Nat) (h2 : Nat) (h3 : Nat) (a_now : Nat → Int32) (a_past : Nat → Int32) (n_saved : Int32) (a_errors : Nat → Int32) (K : Int64 → Int64 → Prop) : ∀ (n8 : Nat) (x1 : Int32) (n_hash : Int64), wpl_X9_digest_226 a_now a_past n_saved a_errors K n8 x1 n_hash → V p l e { frames := 4, cells := 0, slots := 0, locals := 89 } s m args below meth c E A 2 0 0 (MQ below (QP E (po_X9_digest E h0 h1 h2 h3 a_now a_past n_saved a_errors K) A) args s 0 0 A) 226 [(0, .ref h0), (1, .int x1)] [] [(h0, .inr (8, [.ref h1, .ref h2, .int n_saved, .ref h3, .long n_hash])), (h1, .inl (E.2.1, 404, .inl a_now)), (h2, .inl (E.2.1, 1212, .inl a_past)), (h3, .inl (E.2.1, 9, .inl a_errors))] := by
  intro n8
  induction n8 with
  | zero => intro x1 n_hash hw; rw [wpl_X9_digest_226] at hw; exact hw.elim
  | succ n9 ih =>
    intro x1 n_hash hw
    rw [wpl_X9_digest_226] at hw
    refine V_iload_n hC 1 rfl rfl dX9_digest_226 ?_
    refine V_aload_n hC 0 rfl rfl dX9_digest_227 ?_
    refine V_get hC inX9 rfl 0 (by decide) wd_611 0 rfl rfl dX9_digest_228 ?_
    refine V_iconst hC 4 dX9_digest_231 (by decide) ?_
    refine V_iald hC 4 (by decide) 1 rfl (by unfold vp_in; decide) dX9_digest_232 ?_
    refine V_icmp_ge hC 258 (by decide) dX9_digest_233 (fun c15 => ?_) (fun c15 => ?_)
    · have hw := hw.1 c15
      refine V_aload_n hC 0 rfl rfl dX9_digest_258 ?_
      refine V_aload_n hC 0 rfl rfl dX9_digest_259 ?_
      refine V_get hC inX9 rfl 0 (by decide) wd_611 0 rfl rfl dX9_digest_260 ?_
      refine V_iconst hC 5 dX9_digest_263 (by decide) ?_
      refine V_iald hC 5 (by decide) 1 rfl (by unfold vp_in; decide) dX9_digest_264 ?_
      refine V_callV hC (wr := []) 1 [.int (a_now 5)] [] (ct_X9_mix l E h0 h1 h2 h3 a_now a_past n_saved a_errors n_hash (a_now 5) _ hw) wd_848 wd_40 wd_845 wd_847 wd_29 (by decide +kernel) rfl ⟨Nat.le_of_ble_eq_true rfl, Nat.le_of_ble_eq_true rfl⟩ [0, 1, 2, 3] [] rfl rfl rfl rfl (by decide) rfl rfl rfl (Nat.le_of_ble_eq_true rfl) ⟨Nat.le_of_ble_eq_true rfl, Nat.le_of_ble_eq_true rfl⟩ dX9_digest_265 (fun v ws' hp => ?_)
      obtain ⟨g16, rfl, rfl, hw⟩ := hp
      refine V_cast [(0, .ref h0), (1, .int x1)] [] [(h0, .inr (8, [.ref h1, .ref h2, .int n_saved, .ref h3, .long g16])), (h1, .inl (E.2.1, 404, .inl a_now)), (h2, .inl (E.2.1, 1212, .inl a_past)), (h3, .inl (E.2.1, 9, .inl a_errors))] [0, 1] [0, 1, 2, 3] rfl rfl rfl rfl ?_
      refine V_aload_n hC 0 rfl rfl dX9_digest_268 ?_
      refine V_aload_n hC 0 rfl rfl dX9_digest_269 ?_
      refine V_get hC inX9 rfl 0 (by decide) wd_611 0 rfl rfl dX9_digest_270 ?_
      refine V_bipush hC 6 dX9_digest_273 (by decide) ?_
      refine V_iald hC 6 (by decide) 1 rfl (by unfold vp_in; decide) dX9_digest_275 ?_
      refine V_callV hC (wr := []) 1 [.int (a_now 6)] [] (ct_X9_mix l E h0 h1 h2 h3 a_now a_past n_saved a_errors g16 (a_now 6) _ hw) wd_848 wd_40 wd_845 wd_847 wd_29 (by decide +kernel) rfl ⟨Nat.le_of_ble_eq_true rfl, Nat.le_of_ble_eq_true rfl⟩ [0, 1, 2, 3] [] rfl rfl rfl rfl (by decide) rfl rfl rfl (Nat.le_of_ble_eq_true rfl) ⟨Nat.le_of_ble_eq_true rfl, Nat.le_of_ble_eq_true rfl⟩ dX9_digest_276 (fun v ws' hp => ?_)
      obtain ⟨g17, rfl, rfl, hw⟩ := hp
      refine V_cast [(0, .ref h0), (1, .int x1)] [] [(h0, .inr (8, [.ref h1, .ref h2, .int n_saved, .ref h3, .long g17])), (h1, .inl (E.2.1, 404, .inl a_now)), (h2, .inl (E.2.1, 1212, .inl a_past)), (h3, .inl (E.2.1, 9, .inl a_errors))] [0, 1] [0, 1, 2, 3] rfl rfl rfl rfl ?_
      refine V_iconst hC 0 dX9_digest_279 (by decide) ?_
      refine V_istore_n hC [(1, .int 0), (0, .ref h0)] rfl (by decide) rfl dX9_digest_280 ?_
      refine V_cast [(0, .ref h0), (1, .int 0)] [] [(h0, .inr (8, [.ref h1, .ref h2, .int n_saved, .ref h3, .long g17])), (h1, .inl (E.2.1, 404, .inl a_now)), (h2, .inl (E.2.1, 1212, .inl a_past)), (h3, .inl (E.2.1, 9, .inl a_errors))] [1, 0] [0, 1, 2, 3] rfl rfl rfl rfl ?_
      obtain ⟨n8, hw⟩ := hw
      exact bl_X9_digest_281 hC hr h0 h1 h2 h3 a_now a_past n_saved a_errors K n8 0 g17 hw
    · have hw := hw.2 c15
      refine V_aload_n hC 0 rfl rfl dX9_digest_236 ?_
      refine V_aload_n hC 0 rfl rfl dX9_digest_237 ?_
      refine V_get hC inX9 rfl 0 (by decide) wd_611 0 rfl rfl dX9_digest_238 ?_
      refine V_sipush hC 168 dX9_digest_241 (by decide) ?_
      refine V_iconst hC 3 dX9_digest_244 (by decide) ?_
      refine V_iload_n hC 1 rfl rfl dX9_digest_245 ?_
      refine V_imul hC dX9_digest_246 ?_
      refine V_iadd hC dX9_digest_247 ?_
      refine V_iald hC _ rfl 1 rfl hw.1 dX9_digest_248 ?_
      have hw := hw.2
      refine V_callV hC (wr := []) 1 [.int (a_now (Int32.toNatClampNeg (168 + (3 * x1))))] [] (ct_X9_mix l E h0 h1 h2 h3 a_now a_past n_saved a_errors n_hash (a_now (Int32.toNatClampNeg (168 + (3 * x1)))) _ hw) wd_848 wd_40 wd_845 wd_847 wd_29 (by decide +kernel) rfl ⟨Nat.le_of_ble_eq_true rfl, Nat.le_of_ble_eq_true rfl⟩ [0, 1, 2, 3] [] rfl rfl rfl rfl (by decide) rfl rfl rfl (Nat.le_of_ble_eq_true rfl) ⟨Nat.le_of_ble_eq_true rfl, Nat.le_of_ble_eq_true rfl⟩ dX9_digest_249 (fun v ws' hp => ?_)
      obtain ⟨g21, rfl, rfl, hw⟩ := hp
      refine V_cast [(0, .ref h0), (1, .int x1)] [] [(h0, .inr (8, [.ref h1, .ref h2, .int n_saved, .ref h3, .long g21])), (h1, .inl (E.2.1, 404, .inl a_now)), (h2, .inl (E.2.1, 1212, .inl a_past)), (h3, .inl (E.2.1, 9, .inl a_errors))] [0, 1] [0, 1, 2, 3] rfl rfl rfl rfl ?_
      refine V_iinc hC (x1 + 1) 1 [(1, .int (x1 + 1)), (0, .ref h0)] rfl (congrArg (fun z => x1 + z) (by decide : Int32.ofInt (1) = (1 : Int32))) (by decide) rfl dX9_digest_252 ?_
      refine V_goto hC 226 (by decide) dX9_digest_255 ?_
      refine V_cast [(0, .ref h0), (1, .int (x1 + 1))] [] [(h0, .inr (8, [.ref h1, .ref h2, .int n_saved, .ref h3, .long g21])), (h1, .inl (E.2.1, 404, .inl a_now)), (h2, .inl (E.2.1, 1212, .inl a_past)), (h3, .inl (E.2.1, 9, .inl a_errors))] [1, 0] [0, 1, 2, 3] rfl rfl rfl rfl ?_
      exact ih (x1 + 1) g21 hw
def wpl_X9_digest_188 (a_now : Nat → Int32) (a_past : Nat → Int32) (n_saved : Int32) (a_errors : Nat → Int32) (K : Int64 → Int64 → Prop) : Nat → Int32 → Int64 → Prop
  | 0, _, _ => False
  | n9 + 1, x1, n_hash => ((128 ≤ x1 → (wp_X9_mix a_now a_past n_saved a_errors n_hash (a_now 4) (fun (g14 : Int64) => (∃ n8 : Nat, wpl_X9_digest_226 a_now a_past n_saved a_errors K n8 0 g14)))) ∧ (¬ (128 ≤ x1) → (vp_in (40 + x1) 404 ∧ (wp_X9_mix a_now a_past n_saved a_errors n_hash (a_now (Int32.toNatClampNeg (40 + x1))) (fun (g22 : Int64) => wpl_X9_digest_188 a_now a_past n_saved a_errors K n9 (x1 + 1) g22)))))
set_option maxRecDepth 100000 in
set_option maxHeartbeats 4000000 in
theorem bl_X9_digest_188 {p : Program} {l : Launch} {e : Env} {s : State} {m : MethodId} {args : Array Value} {below : List Frame} {meth : Method} {c : Code} {E : EN} {A : Nat → Prop} (hC : Cx p s m args meth c E A cX9_digest 2 "CookieServerModel") (hr : meth.sig.returnType = some .long) (h0 : Nat) (h1 : Nat) (h2 : Nat) (h3 : Nat) (a_now : Nat → Int32) (a_past : Nat → Int32) (n_saved : Int32) (a_errors : Nat → Int32) (K : Int64 → Int64 → Prop) : ∀ (n8 : Nat) (x1 : Int32) (n_hash : Int64), wpl_X9_digest_188 a_now a_past n_saved a_errors K n8 x1 n_hash → V p l e { frames := 4, cells := 0, slots := 0, locals := 89 } s m args below meth c E A 2 0 0 (MQ below (QP E (po_X9_digest E h0 h1 h2 h3 a_now a_past n_saved a_errors K) A) args s 0 0 A) 188 [(0, .ref h0), (1, .int x1)] [] [(h0, .inr (8, [.ref h1, .ref h2, .int n_saved, .ref h3, .long n_hash])), (h1, .inl (E.2.1, 404, .inl a_now)), (h2, .inl (E.2.1, 1212, .inl a_past)), (h3, .inl (E.2.1, 9, .inl a_errors))] := by
  intro n8
  induction n8 with
  | zero => intro x1 n_hash hw; rw [wpl_X9_digest_188] at hw; exact hw.elim
  | succ n9 ih =>
    intro x1 n_hash hw
    rw [wpl_X9_digest_188] at hw
    refine V_iload_n hC 1 rfl rfl dX9_digest_188 ?_
    refine V_sipush hC 128 dX9_digest_189 (by decide) ?_
    refine V_icmp_ge hC 214 (by decide) dX9_digest_192 (fun c13 => ?_) (fun c13 => ?_)
    · have hw := hw.1 c13
      refine V_aload_n hC 0 rfl rfl dX9_digest_214 ?_
      refine V_aload_n hC 0 rfl rfl dX9_digest_215 ?_
      refine V_get hC inX9 rfl 0 (by decide) wd_611 0 rfl rfl dX9_digest_216 ?_
      refine V_iconst hC 4 dX9_digest_219 (by decide) ?_
      refine V_iald hC 4 (by decide) 1 rfl (by unfold vp_in; decide) dX9_digest_220 ?_
      refine V_callV hC (wr := []) 1 [.int (a_now 4)] [] (ct_X9_mix l E h0 h1 h2 h3 a_now a_past n_saved a_errors n_hash (a_now 4) _ hw) wd_848 wd_40 wd_845 wd_847 wd_29 (by decide +kernel) rfl ⟨Nat.le_of_ble_eq_true rfl, Nat.le_of_ble_eq_true rfl⟩ [0, 1, 2, 3] [] rfl rfl rfl rfl (by decide) rfl rfl rfl (Nat.le_of_ble_eq_true rfl) ⟨Nat.le_of_ble_eq_true rfl, Nat.le_of_ble_eq_true rfl⟩ dX9_digest_221 (fun v ws' hp => ?_)
      obtain ⟨g14, rfl, rfl, hw⟩ := hp
      refine V_cast [(0, .ref h0), (1, .int x1)] [] [(h0, .inr (8, [.ref h1, .ref h2, .int n_saved, .ref h3, .long g14])), (h1, .inl (E.2.1, 404, .inl a_now)), (h2, .inl (E.2.1, 1212, .inl a_past)), (h3, .inl (E.2.1, 9, .inl a_errors))] [0, 1] [0, 1, 2, 3] rfl rfl rfl rfl ?_
      refine V_iconst hC 0 dX9_digest_224 (by decide) ?_
      refine V_istore_n hC [(1, .int 0), (0, .ref h0)] rfl (by decide) rfl dX9_digest_225 ?_
      refine V_cast [(0, .ref h0), (1, .int 0)] [] [(h0, .inr (8, [.ref h1, .ref h2, .int n_saved, .ref h3, .long g14])), (h1, .inl (E.2.1, 404, .inl a_now)), (h2, .inl (E.2.1, 1212, .inl a_past)), (h3, .inl (E.2.1, 9, .inl a_errors))] [1, 0] [0, 1, 2, 3] rfl rfl rfl rfl ?_
      obtain ⟨n8, hw⟩ := hw
      exact bl_X9_digest_226 hC hr h0 h1 h2 h3 a_now a_past n_saved a_errors K n8 0 g14 hw
    · have hw := hw.2 c13
      refine V_aload_n hC 0 rfl rfl dX9_digest_195 ?_
      refine V_aload_n hC 0 rfl rfl dX9_digest_196 ?_
      refine V_get hC inX9 rfl 0 (by decide) wd_611 0 rfl rfl dX9_digest_197 ?_
      refine V_bipush hC 40 dX9_digest_200 (by decide) ?_
      refine V_iload_n hC 1 rfl rfl dX9_digest_202 ?_
      refine V_iadd hC dX9_digest_203 ?_
      refine V_iald hC _ rfl 1 rfl hw.1 dX9_digest_204 ?_
      have hw := hw.2
      refine V_callV hC (wr := []) 1 [.int (a_now (Int32.toNatClampNeg (40 + x1)))] [] (ct_X9_mix l E h0 h1 h2 h3 a_now a_past n_saved a_errors n_hash (a_now (Int32.toNatClampNeg (40 + x1))) _ hw) wd_848 wd_40 wd_845 wd_847 wd_29 (by decide +kernel) rfl ⟨Nat.le_of_ble_eq_true rfl, Nat.le_of_ble_eq_true rfl⟩ [0, 1, 2, 3] [] rfl rfl rfl rfl (by decide) rfl rfl rfl (Nat.le_of_ble_eq_true rfl) ⟨Nat.le_of_ble_eq_true rfl, Nat.le_of_ble_eq_true rfl⟩ dX9_digest_205 (fun v ws' hp => ?_)
      obtain ⟨g22, rfl, rfl, hw⟩ := hp
      refine V_cast [(0, .ref h0), (1, .int x1)] [] [(h0, .inr (8, [.ref h1, .ref h2, .int n_saved, .ref h3, .long g22])), (h1, .inl (E.2.1, 404, .inl a_now)), (h2, .inl (E.2.1, 1212, .inl a_past)), (h3, .inl (E.2.1, 9, .inl a_errors))] [0, 1] [0, 1, 2, 3] rfl rfl rfl rfl ?_
      refine V_iinc hC (x1 + 1) 1 [(1, .int (x1 + 1)), (0, .ref h0)] rfl (congrArg (fun z => x1 + z) (by decide : Int32.ofInt (1) = (1 : Int32))) (by decide) rfl dX9_digest_208 ?_
      refine V_goto hC 188 (by decide) dX9_digest_211 ?_
      refine V_cast [(0, .ref h0), (1, .int (x1 + 1))] [] [(h0, .inr (8, [.ref h1, .ref h2, .int n_saved, .ref h3, .long g22])), (h1, .inl (E.2.1, 404, .inl a_now)), (h2, .inl (E.2.1, 1212, .inl a_past)), (h3, .inl (E.2.1, 9, .inl a_errors))] [1, 0] [0, 1, 2, 3] rfl rfl rfl rfl ?_
      exact ih (x1 + 1) g22 hw
def wpl_X9_digest_89 (a_now : Nat → Int32) (a_past : Nat → Int32) (n_saved : Int32) (a_errors : Nat → Int32) (K : Int64 → Int64 → Prop) : Nat → Int32 → Int64 → Prop
  | 0, _, _ => False
  | n9 + 1, x1, n_hash => (((a_now 3) ≤ x1 → (wp_X9_connections a_now a_past n_saved a_errors n_hash (fun (r11 : Int32) => (wp_X9_mix a_now a_past n_saved a_errors n_hash r11 (fun (g12 : Int64) => (∃ n8 : Nat, wpl_X9_digest_188 a_now a_past n_saved a_errors K n8 0 g12)))))) ∧ (¬ ((a_now 3) ≤ x1) → (vp_in (24 + (4 * x1)) 404 ∧ (wp_X9_mix a_now a_past n_saved a_errors n_hash (a_now (Int32.toNatClampNeg (24 + (4 * x1)))) (fun (g23 : Int64) => (vp_in ((24 + (4 * x1)) + 1) 404 ∧ (wp_X9_mix a_now a_past n_saved a_errors g23 (a_now (Int32.toNatClampNeg ((24 + (4 * x1)) + 1))) (fun (g24 : Int64) => (vp_in ((24 + (4 * x1)) + 2) 404 ∧ (wp_X9_mix a_now a_past n_saved a_errors g24 (a_now (Int32.toNatClampNeg ((24 + (4 * x1)) + 2))) (fun (g25 : Int64) => (vp_in ((24 + (4 * x1)) + 3) 404 ∧ (wp_X9_mix a_now a_past n_saved a_errors g25 ((a_now 0) - (a_now (Int32.toNatClampNeg ((24 + (4 * x1)) + 3)))) (fun (g26 : Int64) => wpl_X9_digest_89 a_now a_past n_saved a_errors K n9 (x1 + 1) g26))))))))))))))
set_option maxRecDepth 100000 in
set_option maxHeartbeats 4000000 in
theorem bl_X9_digest_89 {p : Program} {l : Launch} {e : Env} {s : State} {m : MethodId} {args : Array Value} {below : List Frame} {meth : Method} {c : Code} {E : EN} {A : Nat → Prop} (hC : Cx p s m args meth c E A cX9_digest 2 "CookieServerModel") (hr : meth.sig.returnType = some .long) (h0 : Nat) (h1 : Nat) (h2 : Nat) (h3 : Nat) (a_now : Nat → Int32) (a_past : Nat → Int32) (n_saved : Int32) (a_errors : Nat → Int32) (K : Int64 → Int64 → Prop) : ∀ (n8 : Nat) (x1 : Int32) (n_hash : Int64), wpl_X9_digest_89 a_now a_past n_saved a_errors K n8 x1 n_hash → V p l e { frames := 4, cells := 0, slots := 0, locals := 89 } s m args below meth c E A 2 0 0 (MQ below (QP E (po_X9_digest E h0 h1 h2 h3 a_now a_past n_saved a_errors K) A) args s 0 0 A) 89 [(0, .ref h0), (1, .int x1)] [] [(h0, .inr (8, [.ref h1, .ref h2, .int n_saved, .ref h3, .long n_hash])), (h1, .inl (E.2.1, 404, .inl a_now)), (h2, .inl (E.2.1, 1212, .inl a_past)), (h3, .inl (E.2.1, 9, .inl a_errors))] := by
  intro n8
  induction n8 with
  | zero => intro x1 n_hash hw; rw [wpl_X9_digest_89] at hw; exact hw.elim
  | succ n9 ih =>
    intro x1 n_hash hw
    rw [wpl_X9_digest_89] at hw
    refine V_iload_n hC 1 rfl rfl dX9_digest_89 ?_
    refine V_aload_n hC 0 rfl rfl dX9_digest_90 ?_
    refine V_get hC inX9 rfl 0 (by decide) wd_611 0 rfl rfl dX9_digest_91 ?_
    refine V_iconst hC 3 dX9_digest_94 (by decide) ?_
    refine V_iald hC 3 (by decide) 1 rfl (by unfold vp_in; decide) dX9_digest_95 ?_
    refine V_icmp_ge hC 178 (by decide) dX9_digest_96 (fun c10 => ?_) (fun c10 => ?_)
    · have hw := hw.1 c10
      refine V_aload_n hC 0 rfl rfl dX9_digest_178 ?_
      refine V_aload_n hC 0 rfl rfl dX9_digest_179 ?_
      refine V_callV hC (wr := []) 0 [] [.ref h0] (ct_X9_connections l E h0 h1 h2 h3 a_now a_past n_saved a_errors n_hash _ hw) wd_720 wd_40 wd_717 wd_718 wd_719 (by decide +kernel) rfl ⟨Nat.le_of_ble_eq_true rfl, Nat.le_of_ble_eq_true rfl⟩ [0, 1, 2, 3] [] rfl rfl rfl rfl (by decide) rfl rfl rfl (Nat.le_of_ble_eq_true rfl) ⟨Nat.le_of_ble_eq_true rfl, Nat.le_of_ble_eq_true rfl⟩ dX9_digest_180 (fun v ws' hp => ?_)
      obtain ⟨r11, rfl, rfl, hw⟩ := hp
      refine V_cast [(0, .ref h0), (1, .int x1)] [.int r11, .ref h0] [(h0, .inr (8, [.ref h1, .ref h2, .int n_saved, .ref h3, .long n_hash])), (h1, .inl (E.2.1, 404, .inl a_now)), (h2, .inl (E.2.1, 1212, .inl a_past)), (h3, .inl (E.2.1, 9, .inl a_errors))] [0, 1] [0, 1, 2, 3] rfl rfl rfl rfl ?_
      refine V_callV hC (wr := []) 1 [.int r11] [] (ct_X9_mix l E h0 h1 h2 h3 a_now a_past n_saved a_errors n_hash r11 _ hw) wd_848 wd_40 wd_845 wd_847 wd_29 (by decide +kernel) rfl ⟨Nat.le_of_ble_eq_true rfl, Nat.le_of_ble_eq_true rfl⟩ [0, 1, 2, 3] [] rfl rfl rfl rfl (by decide) rfl rfl rfl (Nat.le_of_ble_eq_true rfl) ⟨Nat.le_of_ble_eq_true rfl, Nat.le_of_ble_eq_true rfl⟩ dX9_digest_183 (fun v ws' hp => ?_)
      obtain ⟨g12, rfl, rfl, hw⟩ := hp
      refine V_cast [(0, .ref h0), (1, .int x1)] [] [(h0, .inr (8, [.ref h1, .ref h2, .int n_saved, .ref h3, .long g12])), (h1, .inl (E.2.1, 404, .inl a_now)), (h2, .inl (E.2.1, 1212, .inl a_past)), (h3, .inl (E.2.1, 9, .inl a_errors))] [0, 1] [0, 1, 2, 3] rfl rfl rfl rfl ?_
      refine V_iconst hC 0 dX9_digest_186 (by decide) ?_
      refine V_istore_n hC [(1, .int 0), (0, .ref h0)] rfl (by decide) rfl dX9_digest_187 ?_
      refine V_cast [(0, .ref h0), (1, .int 0)] [] [(h0, .inr (8, [.ref h1, .ref h2, .int n_saved, .ref h3, .long g12])), (h1, .inl (E.2.1, 404, .inl a_now)), (h2, .inl (E.2.1, 1212, .inl a_past)), (h3, .inl (E.2.1, 9, .inl a_errors))] [1, 0] [0, 1, 2, 3] rfl rfl rfl rfl ?_
      obtain ⟨n8, hw⟩ := hw
      exact bl_X9_digest_188 hC hr h0 h1 h2 h3 a_now a_past n_saved a_errors K n8 0 g12 hw
    · have hw := hw.2 c10
      refine V_aload_n hC 0 rfl rfl dX9_digest_99 ?_
      refine V_aload_n hC 0 rfl rfl dX9_digest_100 ?_
      refine V_get hC inX9 rfl 0 (by decide) wd_611 0 rfl rfl dX9_digest_101 ?_
      refine V_bipush hC 24 dX9_digest_104 (by decide) ?_
      refine V_iconst hC 4 dX9_digest_106 (by decide) ?_
      refine V_iload_n hC 1 rfl rfl dX9_digest_107 ?_
      refine V_imul hC dX9_digest_108 ?_
      refine V_iadd hC dX9_digest_109 ?_
      refine V_iald hC _ rfl 1 rfl hw.1 dX9_digest_110 ?_
      have hw := hw.2
      refine V_callV hC (wr := []) 1 [.int (a_now (Int32.toNatClampNeg (24 + (4 * x1))))] [] (ct_X9_mix l E h0 h1 h2 h3 a_now a_past n_saved a_errors n_hash (a_now (Int32.toNatClampNeg (24 + (4 * x1)))) _ hw) wd_848 wd_40 wd_845 wd_847 wd_29 (by decide +kernel) rfl ⟨Nat.le_of_ble_eq_true rfl, Nat.le_of_ble_eq_true rfl⟩ [0, 1, 2, 3] [] rfl rfl rfl rfl (by decide) rfl rfl rfl (Nat.le_of_ble_eq_true rfl) ⟨Nat.le_of_ble_eq_true rfl, Nat.le_of_ble_eq_true rfl⟩ dX9_digest_111 (fun v ws' hp => ?_)
      obtain ⟨g23, rfl, rfl, hw⟩ := hp
      refine V_cast [(0, .ref h0), (1, .int x1)] [] [(h0, .inr (8, [.ref h1, .ref h2, .int n_saved, .ref h3, .long g23])), (h1, .inl (E.2.1, 404, .inl a_now)), (h2, .inl (E.2.1, 1212, .inl a_past)), (h3, .inl (E.2.1, 9, .inl a_errors))] [0, 1] [0, 1, 2, 3] rfl rfl rfl rfl ?_
      refine V_aload_n hC 0 rfl rfl dX9_digest_114 ?_
      refine V_aload_n hC 0 rfl rfl dX9_digest_115 ?_
      refine V_get hC inX9 rfl 0 (by decide) wd_611 0 rfl rfl dX9_digest_116 ?_
      refine V_bipush hC 24 dX9_digest_119 (by decide) ?_
      refine V_iconst hC 4 dX9_digest_121 (by decide) ?_
      refine V_iload_n hC 1 rfl rfl dX9_digest_122 ?_
      refine V_imul hC dX9_digest_123 ?_
      refine V_iadd hC dX9_digest_124 ?_
      refine V_iconst hC 1 dX9_digest_125 (by decide) ?_
      refine V_iadd hC dX9_digest_126 ?_
      refine V_iald hC _ rfl 1 rfl hw.1 dX9_digest_127 ?_
      have hw := hw.2
      refine V_callV hC (wr := []) 1 [.int (a_now (Int32.toNatClampNeg ((24 + (4 * x1)) + 1)))] [] (ct_X9_mix l E h0 h1 h2 h3 a_now a_past n_saved a_errors g23 (a_now (Int32.toNatClampNeg ((24 + (4 * x1)) + 1))) _ hw) wd_848 wd_40 wd_845 wd_847 wd_29 (by decide +kernel) rfl ⟨Nat.le_of_ble_eq_true rfl, Nat.le_of_ble_eq_true rfl⟩ [0, 1, 2, 3] [] rfl rfl rfl rfl (by decide) rfl rfl rfl (Nat.le_of_ble_eq_true rfl) ⟨Nat.le_of_ble_eq_true rfl, Nat.le_of_ble_eq_true rfl⟩ dX9_digest_128 (fun v ws' hp => ?_)
      obtain ⟨g24, rfl, rfl, hw⟩ := hp
      refine V_cast [(0, .ref h0), (1, .int x1)] [] [(h0, .inr (8, [.ref h1, .ref h2, .int n_saved, .ref h3, .long g24])), (h1, .inl (E.2.1, 404, .inl a_now)), (h2, .inl (E.2.1, 1212, .inl a_past)), (h3, .inl (E.2.1, 9, .inl a_errors))] [0, 1] [0, 1, 2, 3] rfl rfl rfl rfl ?_
      refine V_aload_n hC 0 rfl rfl dX9_digest_131 ?_
      refine V_aload_n hC 0 rfl rfl dX9_digest_132 ?_
      refine V_get hC inX9 rfl 0 (by decide) wd_611 0 rfl rfl dX9_digest_133 ?_
      refine V_bipush hC 24 dX9_digest_136 (by decide) ?_
      refine V_iconst hC 4 dX9_digest_138 (by decide) ?_
      refine V_iload_n hC 1 rfl rfl dX9_digest_139 ?_
      refine V_imul hC dX9_digest_140 ?_
      refine V_iadd hC dX9_digest_141 ?_
      refine V_iconst hC 2 dX9_digest_142 (by decide) ?_
      refine V_iadd hC dX9_digest_143 ?_
      refine V_iald hC _ rfl 1 rfl hw.1 dX9_digest_144 ?_
      have hw := hw.2
      refine V_callV hC (wr := []) 1 [.int (a_now (Int32.toNatClampNeg ((24 + (4 * x1)) + 2)))] [] (ct_X9_mix l E h0 h1 h2 h3 a_now a_past n_saved a_errors g24 (a_now (Int32.toNatClampNeg ((24 + (4 * x1)) + 2))) _ hw) wd_848 wd_40 wd_845 wd_847 wd_29 (by decide +kernel) rfl ⟨Nat.le_of_ble_eq_true rfl, Nat.le_of_ble_eq_true rfl⟩ [0, 1, 2, 3] [] rfl rfl rfl rfl (by decide) rfl rfl rfl (Nat.le_of_ble_eq_true rfl) ⟨Nat.le_of_ble_eq_true rfl, Nat.le_of_ble_eq_true rfl⟩ dX9_digest_145 (fun v ws' hp => ?_)
      obtain ⟨g25, rfl, rfl, hw⟩ := hp
      refine V_cast [(0, .ref h0), (1, .int x1)] [] [(h0, .inr (8, [.ref h1, .ref h2, .int n_saved, .ref h3, .long g25])), (h1, .inl (E.2.1, 404, .inl a_now)), (h2, .inl (E.2.1, 1212, .inl a_past)), (h3, .inl (E.2.1, 9, .inl a_errors))] [0, 1] [0, 1, 2, 3] rfl rfl rfl rfl ?_
      refine V_aload_n hC 0 rfl rfl dX9_digest_148 ?_
      refine V_aload_n hC 0 rfl rfl dX9_digest_149 ?_
      refine V_get hC inX9 rfl 0 (by decide) wd_611 0 rfl rfl dX9_digest_150 ?_
      refine V_iconst hC 0 dX9_digest_153 (by decide) ?_
      refine V_iald hC 0 (by decide) 1 rfl (by unfold vp_in; decide) dX9_digest_154 ?_
      refine V_aload_n hC 0 rfl rfl dX9_digest_155 ?_
      refine V_get hC inX9 rfl 0 (by decide) wd_611 0 rfl rfl dX9_digest_156 ?_
      refine V_bipush hC 24 dX9_digest_159 (by decide) ?_
      refine V_iconst hC 4 dX9_digest_161 (by decide) ?_
      refine V_iload_n hC 1 rfl rfl dX9_digest_162 ?_
      refine V_imul hC dX9_digest_163 ?_
      refine V_iadd hC dX9_digest_164 ?_
      refine V_iconst hC 3 dX9_digest_165 (by decide) ?_
      refine V_iadd hC dX9_digest_166 ?_
      refine V_iald hC _ rfl 1 rfl hw.1 dX9_digest_167 ?_
      have hw := hw.2
      refine V_isub hC dX9_digest_168 ?_
      refine V_callV hC (wr := []) 1 [.int ((a_now 0) - (a_now (Int32.toNatClampNeg ((24 + (4 * x1)) + 3))))] [] (ct_X9_mix l E h0 h1 h2 h3 a_now a_past n_saved a_errors g25 ((a_now 0) - (a_now (Int32.toNatClampNeg ((24 + (4 * x1)) + 3)))) _ hw) wd_848 wd_40 wd_845 wd_847 wd_29 (by decide +kernel) rfl ⟨Nat.le_of_ble_eq_true rfl, Nat.le_of_ble_eq_true rfl⟩ [0, 1, 2, 3] [] rfl rfl rfl rfl (by decide) rfl rfl rfl (Nat.le_of_ble_eq_true rfl) ⟨Nat.le_of_ble_eq_true rfl, Nat.le_of_ble_eq_true rfl⟩ dX9_digest_169 (fun v ws' hp => ?_)
      obtain ⟨g26, rfl, rfl, hw⟩ := hp
      refine V_cast [(0, .ref h0), (1, .int x1)] [] [(h0, .inr (8, [.ref h1, .ref h2, .int n_saved, .ref h3, .long g26])), (h1, .inl (E.2.1, 404, .inl a_now)), (h2, .inl (E.2.1, 1212, .inl a_past)), (h3, .inl (E.2.1, 9, .inl a_errors))] [0, 1] [0, 1, 2, 3] rfl rfl rfl rfl ?_
      refine V_iinc hC (x1 + 1) 1 [(1, .int (x1 + 1)), (0, .ref h0)] rfl (congrArg (fun z => x1 + z) (by decide : Int32.ofInt (1) = (1 : Int32))) (by decide) rfl dX9_digest_172 ?_
      refine V_goto hC 89 (by decide) dX9_digest_175 ?_
      refine V_cast [(0, .ref h0), (1, .int (x1 + 1))] [] [(h0, .inr (8, [.ref h1, .ref h2, .int n_saved, .ref h3, .long g26])), (h1, .inl (E.2.1, 404, .inl a_now)), (h2, .inl (E.2.1, 1212, .inl a_past)), (h3, .inl (E.2.1, 9, .inl a_errors))] [1, 0] [0, 1, 2, 3] rfl rfl rfl rfl ?_
      exact ih (x1 + 1) g26 hw
def wpl_X9_digest_9 (a_now : Nat → Int32) (a_past : Nat → Int32) (n_saved : Int32) (a_errors : Nat → Int32) (K : Int64 → Int64 → Prop) : Nat → Int32 → Int64 → Prop
  | 0, _, _ => False
  | n9 + 1, x1, n_hash => ((9 ≤ x1 → (wp_X9_mix a_now a_past n_saved a_errors n_hash (a_now 0) (fun (g2 : Int64) => (wp_X9_mix a_now a_past n_saved a_errors g2 (a_now 1) (fun (g3 : Int64) => (wp_X9_mix a_now a_past n_saved a_errors g3 (a_now 2) (fun (g4 : Int64) => (wp_X9_loadNow a_now a_past n_saved a_errors g4 (fun (r5 : Int32) => (wp_X9_mix a_now a_past n_saved a_errors g4 r5 (fun (g6 : Int64) => (wp_X9_difficultyNow a_now a_past n_saved a_errors g6 (fun (r7 : Int32) => (wp_X9_mix a_now a_past n_saved a_errors g6 r7 (fun (g8 : Int64) => (wp_X9_mix a_now a_past n_saved a_errors g8 (a_now 3) (fun (g9 : Int64) => (∃ n8 : Nat, wpl_X9_digest_89 a_now a_past n_saved a_errors K n8 0 g9)))))))))))))))))) ∧ (¬ (9 ≤ x1) → (vp_in x1 9 ∧ (wp_X9_mix a_now a_past n_saved a_errors n_hash (a_errors (Int32.toNatClampNeg x1)) (fun (g27 : Int64) => wpl_X9_digest_9 a_now a_past n_saved a_errors K n9 (x1 + 1) g27)))))
set_option maxRecDepth 100000 in
set_option maxHeartbeats 4000000 in
theorem bl_X9_digest_9 {p : Program} {l : Launch} {e : Env} {s : State} {m : MethodId} {args : Array Value} {below : List Frame} {meth : Method} {c : Code} {E : EN} {A : Nat → Prop} (hC : Cx p s m args meth c E A cX9_digest 2 "CookieServerModel") (hr : meth.sig.returnType = some .long) (h0 : Nat) (h1 : Nat) (h2 : Nat) (h3 : Nat) (a_now : Nat → Int32) (a_past : Nat → Int32) (n_saved : Int32) (a_errors : Nat → Int32) (K : Int64 → Int64 → Prop) : ∀ (n8 : Nat) (x1 : Int32) (n_hash : Int64), wpl_X9_digest_9 a_now a_past n_saved a_errors K n8 x1 n_hash → V p l e { frames := 4, cells := 0, slots := 0, locals := 89 } s m args below meth c E A 2 0 0 (MQ below (QP E (po_X9_digest E h0 h1 h2 h3 a_now a_past n_saved a_errors K) A) args s 0 0 A) 9 [(0, .ref h0), (1, .int x1)] [] [(h0, .inr (8, [.ref h1, .ref h2, .int n_saved, .ref h3, .long n_hash])), (h1, .inl (E.2.1, 404, .inl a_now)), (h2, .inl (E.2.1, 1212, .inl a_past)), (h3, .inl (E.2.1, 9, .inl a_errors))] := by
  intro n8
  induction n8 with
  | zero => intro x1 n_hash hw; rw [wpl_X9_digest_9] at hw; exact hw.elim
  | succ n9 ih =>
    intro x1 n_hash hw
    rw [wpl_X9_digest_9] at hw
    refine V_iload_n hC 1 rfl rfl dX9_digest_9 ?_
    refine V_bipush hC 9 dX9_digest_10 (by decide) ?_
    refine V_icmp_ge hC 31 (by decide) dX9_digest_12 (fun c1 => ?_) (fun c1 => ?_)
    · have hw := hw.1 c1
      refine V_aload_n hC 0 rfl rfl dX9_digest_31 ?_
      refine V_aload_n hC 0 rfl rfl dX9_digest_32 ?_
      refine V_get hC inX9 rfl 0 (by decide) wd_611 0 rfl rfl dX9_digest_33 ?_
      refine V_iconst hC 0 dX9_digest_36 (by decide) ?_
      refine V_iald hC 0 (by decide) 1 rfl (by unfold vp_in; decide) dX9_digest_37 ?_
      refine V_callV hC (wr := []) 1 [.int (a_now 0)] [] (ct_X9_mix l E h0 h1 h2 h3 a_now a_past n_saved a_errors n_hash (a_now 0) _ hw) wd_848 wd_40 wd_845 wd_847 wd_29 (by decide +kernel) rfl ⟨Nat.le_of_ble_eq_true rfl, Nat.le_of_ble_eq_true rfl⟩ [0, 1, 2, 3] [] rfl rfl rfl rfl (by decide) rfl rfl rfl (Nat.le_of_ble_eq_true rfl) ⟨Nat.le_of_ble_eq_true rfl, Nat.le_of_ble_eq_true rfl⟩ dX9_digest_38 (fun v ws' hp => ?_)
      obtain ⟨g2, rfl, rfl, hw⟩ := hp
      refine V_cast [(0, .ref h0), (1, .int x1)] [] [(h0, .inr (8, [.ref h1, .ref h2, .int n_saved, .ref h3, .long g2])), (h1, .inl (E.2.1, 404, .inl a_now)), (h2, .inl (E.2.1, 1212, .inl a_past)), (h3, .inl (E.2.1, 9, .inl a_errors))] [0, 1] [0, 1, 2, 3] rfl rfl rfl rfl ?_
      refine V_aload_n hC 0 rfl rfl dX9_digest_41 ?_
      refine V_aload_n hC 0 rfl rfl dX9_digest_42 ?_
      refine V_get hC inX9 rfl 0 (by decide) wd_611 0 rfl rfl dX9_digest_43 ?_
      refine V_iconst hC 1 dX9_digest_46 (by decide) ?_
      refine V_iald hC 1 (by decide) 1 rfl (by unfold vp_in; decide) dX9_digest_47 ?_
      refine V_callV hC (wr := []) 1 [.int (a_now 1)] [] (ct_X9_mix l E h0 h1 h2 h3 a_now a_past n_saved a_errors g2 (a_now 1) _ hw) wd_848 wd_40 wd_845 wd_847 wd_29 (by decide +kernel) rfl ⟨Nat.le_of_ble_eq_true rfl, Nat.le_of_ble_eq_true rfl⟩ [0, 1, 2, 3] [] rfl rfl rfl rfl (by decide) rfl rfl rfl (Nat.le_of_ble_eq_true rfl) ⟨Nat.le_of_ble_eq_true rfl, Nat.le_of_ble_eq_true rfl⟩ dX9_digest_48 (fun v ws' hp => ?_)
      obtain ⟨g3, rfl, rfl, hw⟩ := hp
      refine V_cast [(0, .ref h0), (1, .int x1)] [] [(h0, .inr (8, [.ref h1, .ref h2, .int n_saved, .ref h3, .long g3])), (h1, .inl (E.2.1, 404, .inl a_now)), (h2, .inl (E.2.1, 1212, .inl a_past)), (h3, .inl (E.2.1, 9, .inl a_errors))] [0, 1] [0, 1, 2, 3] rfl rfl rfl rfl ?_
      refine V_aload_n hC 0 rfl rfl dX9_digest_51 ?_
      refine V_aload_n hC 0 rfl rfl dX9_digest_52 ?_
      refine V_get hC inX9 rfl 0 (by decide) wd_611 0 rfl rfl dX9_digest_53 ?_
      refine V_iconst hC 2 dX9_digest_56 (by decide) ?_
      refine V_iald hC 2 (by decide) 1 rfl (by unfold vp_in; decide) dX9_digest_57 ?_
      refine V_callV hC (wr := []) 1 [.int (a_now 2)] [] (ct_X9_mix l E h0 h1 h2 h3 a_now a_past n_saved a_errors g3 (a_now 2) _ hw) wd_848 wd_40 wd_845 wd_847 wd_29 (by decide +kernel) rfl ⟨Nat.le_of_ble_eq_true rfl, Nat.le_of_ble_eq_true rfl⟩ [0, 1, 2, 3] [] rfl rfl rfl rfl (by decide) rfl rfl rfl (Nat.le_of_ble_eq_true rfl) ⟨Nat.le_of_ble_eq_true rfl, Nat.le_of_ble_eq_true rfl⟩ dX9_digest_58 (fun v ws' hp => ?_)
      obtain ⟨g4, rfl, rfl, hw⟩ := hp
      refine V_cast [(0, .ref h0), (1, .int x1)] [] [(h0, .inr (8, [.ref h1, .ref h2, .int n_saved, .ref h3, .long g4])), (h1, .inl (E.2.1, 404, .inl a_now)), (h2, .inl (E.2.1, 1212, .inl a_past)), (h3, .inl (E.2.1, 9, .inl a_errors))] [0, 1] [0, 1, 2, 3] rfl rfl rfl rfl ?_
      refine V_aload_n hC 0 rfl rfl dX9_digest_61 ?_
      refine V_aload_n hC 0 rfl rfl dX9_digest_62 ?_
      refine V_callV hC (wr := []) 0 [] [.ref h0] (ct_X9_loadNow l E h0 h1 h2 h3 a_now a_past n_saved a_errors g4 _ hw) wd_708 wd_40 wd_705 wd_707 wd_21 (by decide +kernel) rfl ⟨Nat.le_of_ble_eq_true rfl, Nat.le_of_ble_eq_true rfl⟩ [0, 1, 2, 3] [] rfl rfl rfl rfl (by decide) rfl rfl rfl (Nat.le_of_ble_eq_true rfl) ⟨Nat.le_of_ble_eq_true rfl, Nat.le_of_ble_eq_true rfl⟩ dX9_digest_63 (fun v ws' hp => ?_)
      obtain ⟨r5, rfl, rfl, hw⟩ := hp
      refine V_cast [(0, .ref h0), (1, .int x1)] [.int r5, .ref h0] [(h0, .inr (8, [.ref h1, .ref h2, .int n_saved, .ref h3, .long g4])), (h1, .inl (E.2.1, 404, .inl a_now)), (h2, .inl (E.2.1, 1212, .inl a_past)), (h3, .inl (E.2.1, 9, .inl a_errors))] [0, 1] [0, 1, 2, 3] rfl rfl rfl rfl ?_
      refine V_callV hC (wr := []) 1 [.int r5] [] (ct_X9_mix l E h0 h1 h2 h3 a_now a_past n_saved a_errors g4 r5 _ hw) wd_848 wd_40 wd_845 wd_847 wd_29 (by decide +kernel) rfl ⟨Nat.le_of_ble_eq_true rfl, Nat.le_of_ble_eq_true rfl⟩ [0, 1, 2, 3] [] rfl rfl rfl rfl (by decide) rfl rfl rfl (Nat.le_of_ble_eq_true rfl) ⟨Nat.le_of_ble_eq_true rfl, Nat.le_of_ble_eq_true rfl⟩ dX9_digest_66 (fun v ws' hp => ?_)
      obtain ⟨g6, rfl, rfl, hw⟩ := hp
      refine V_cast [(0, .ref h0), (1, .int x1)] [] [(h0, .inr (8, [.ref h1, .ref h2, .int n_saved, .ref h3, .long g6])), (h1, .inl (E.2.1, 404, .inl a_now)), (h2, .inl (E.2.1, 1212, .inl a_past)), (h3, .inl (E.2.1, 9, .inl a_errors))] [0, 1] [0, 1, 2, 3] rfl rfl rfl rfl ?_
      refine V_aload_n hC 0 rfl rfl dX9_digest_69 ?_
      refine V_aload_n hC 0 rfl rfl dX9_digest_70 ?_
      refine V_callV hC (wr := []) 0 [] [.ref h0] (ct_X9_difficultyNow l E h0 h1 h2 h3 a_now a_past n_saved a_errors g6 _ hw) wd_732 wd_40 wd_729 wd_731 wd_24 (by decide +kernel) rfl ⟨Nat.le_of_ble_eq_true rfl, Nat.le_of_ble_eq_true rfl⟩ [0, 1, 2, 3] [] rfl rfl rfl rfl (by decide) rfl rfl rfl (Nat.le_of_ble_eq_true rfl) ⟨Nat.le_of_ble_eq_true rfl, Nat.le_of_ble_eq_true rfl⟩ dX9_digest_71 (fun v ws' hp => ?_)
      obtain ⟨r7, rfl, rfl, hw⟩ := hp
      refine V_cast [(0, .ref h0), (1, .int x1)] [.int r7, .ref h0] [(h0, .inr (8, [.ref h1, .ref h2, .int n_saved, .ref h3, .long g6])), (h1, .inl (E.2.1, 404, .inl a_now)), (h2, .inl (E.2.1, 1212, .inl a_past)), (h3, .inl (E.2.1, 9, .inl a_errors))] [0, 1] [0, 1, 2, 3] rfl rfl rfl rfl ?_
      refine V_callV hC (wr := []) 1 [.int r7] [] (ct_X9_mix l E h0 h1 h2 h3 a_now a_past n_saved a_errors g6 r7 _ hw) wd_848 wd_40 wd_845 wd_847 wd_29 (by decide +kernel) rfl ⟨Nat.le_of_ble_eq_true rfl, Nat.le_of_ble_eq_true rfl⟩ [0, 1, 2, 3] [] rfl rfl rfl rfl (by decide) rfl rfl rfl (Nat.le_of_ble_eq_true rfl) ⟨Nat.le_of_ble_eq_true rfl, Nat.le_of_ble_eq_true rfl⟩ dX9_digest_74 (fun v ws' hp => ?_)
      obtain ⟨g8, rfl, rfl, hw⟩ := hp
      refine V_cast [(0, .ref h0), (1, .int x1)] [] [(h0, .inr (8, [.ref h1, .ref h2, .int n_saved, .ref h3, .long g8])), (h1, .inl (E.2.1, 404, .inl a_now)), (h2, .inl (E.2.1, 1212, .inl a_past)), (h3, .inl (E.2.1, 9, .inl a_errors))] [0, 1] [0, 1, 2, 3] rfl rfl rfl rfl ?_
      refine V_aload_n hC 0 rfl rfl dX9_digest_77 ?_
      refine V_aload_n hC 0 rfl rfl dX9_digest_78 ?_
      refine V_get hC inX9 rfl 0 (by decide) wd_611 0 rfl rfl dX9_digest_79 ?_
      refine V_iconst hC 3 dX9_digest_82 (by decide) ?_
      refine V_iald hC 3 (by decide) 1 rfl (by unfold vp_in; decide) dX9_digest_83 ?_
      refine V_callV hC (wr := []) 1 [.int (a_now 3)] [] (ct_X9_mix l E h0 h1 h2 h3 a_now a_past n_saved a_errors g8 (a_now 3) _ hw) wd_848 wd_40 wd_845 wd_847 wd_29 (by decide +kernel) rfl ⟨Nat.le_of_ble_eq_true rfl, Nat.le_of_ble_eq_true rfl⟩ [0, 1, 2, 3] [] rfl rfl rfl rfl (by decide) rfl rfl rfl (Nat.le_of_ble_eq_true rfl) ⟨Nat.le_of_ble_eq_true rfl, Nat.le_of_ble_eq_true rfl⟩ dX9_digest_84 (fun v ws' hp => ?_)
      obtain ⟨g9, rfl, rfl, hw⟩ := hp
      refine V_cast [(0, .ref h0), (1, .int x1)] [] [(h0, .inr (8, [.ref h1, .ref h2, .int n_saved, .ref h3, .long g9])), (h1, .inl (E.2.1, 404, .inl a_now)), (h2, .inl (E.2.1, 1212, .inl a_past)), (h3, .inl (E.2.1, 9, .inl a_errors))] [0, 1] [0, 1, 2, 3] rfl rfl rfl rfl ?_
      refine V_iconst hC 0 dX9_digest_87 (by decide) ?_
      refine V_istore_n hC [(1, .int 0), (0, .ref h0)] rfl (by decide) rfl dX9_digest_88 ?_
      refine V_cast [(0, .ref h0), (1, .int 0)] [] [(h0, .inr (8, [.ref h1, .ref h2, .int n_saved, .ref h3, .long g9])), (h1, .inl (E.2.1, 404, .inl a_now)), (h2, .inl (E.2.1, 1212, .inl a_past)), (h3, .inl (E.2.1, 9, .inl a_errors))] [1, 0] [0, 1, 2, 3] rfl rfl rfl rfl ?_
      obtain ⟨n8, hw⟩ := hw
      exact bl_X9_digest_89 hC hr h0 h1 h2 h3 a_now a_past n_saved a_errors K n8 0 g9 hw
    · have hw := hw.2 c1
      refine V_aload_n hC 0 rfl rfl dX9_digest_15 ?_
      refine V_aload_n hC 0 rfl rfl dX9_digest_16 ?_
      refine V_get hC inX9 rfl 3 (by decide) wd_614 0 rfl rfl dX9_digest_17 ?_
      refine V_iload_n hC 1 rfl rfl dX9_digest_20 ?_
      refine V_iald hC _ rfl 3 rfl hw.1 dX9_digest_21 ?_
      have hw := hw.2
      refine V_callV hC (wr := []) 1 [.int (a_errors (Int32.toNatClampNeg x1))] [] (ct_X9_mix l E h0 h1 h2 h3 a_now a_past n_saved a_errors n_hash (a_errors (Int32.toNatClampNeg x1)) _ hw) wd_848 wd_40 wd_845 wd_847 wd_29 (by decide +kernel) rfl ⟨Nat.le_of_ble_eq_true rfl, Nat.le_of_ble_eq_true rfl⟩ [0, 1, 2, 3] [] rfl rfl rfl rfl (by decide) rfl rfl rfl (Nat.le_of_ble_eq_true rfl) ⟨Nat.le_of_ble_eq_true rfl, Nat.le_of_ble_eq_true rfl⟩ dX9_digest_22 (fun v ws' hp => ?_)
      obtain ⟨g27, rfl, rfl, hw⟩ := hp
      refine V_cast [(0, .ref h0), (1, .int x1)] [] [(h0, .inr (8, [.ref h1, .ref h2, .int n_saved, .ref h3, .long g27])), (h1, .inl (E.2.1, 404, .inl a_now)), (h2, .inl (E.2.1, 1212, .inl a_past)), (h3, .inl (E.2.1, 9, .inl a_errors))] [0, 1] [0, 1, 2, 3] rfl rfl rfl rfl ?_
      refine V_iinc hC (x1 + 1) 1 [(1, .int (x1 + 1)), (0, .ref h0)] rfl (congrArg (fun z => x1 + z) (by decide : Int32.ofInt (1) = (1 : Int32))) (by decide) rfl dX9_digest_25 ?_
      refine V_goto hC 9 (by decide) dX9_digest_28 ?_
      refine V_cast [(0, .ref h0), (1, .int (x1 + 1))] [] [(h0, .inr (8, [.ref h1, .ref h2, .int n_saved, .ref h3, .long g27])), (h1, .inl (E.2.1, 404, .inl a_now)), (h2, .inl (E.2.1, 1212, .inl a_past)), (h3, .inl (E.2.1, 9, .inl a_errors))] [1, 0] [0, 1, 2, 3] rfl rfl rfl rfl ?_
      exact ih (x1 + 1) g27 hw
def wp_X9_digest (a_now : Nat → Int32) (a_past : Nat → Int32) (n_saved : Int32) (a_errors : Nat → Int32) (n_hash : Int64) (K : Int64 → Int64 → Prop) : Prop := (∃ n8 : Nat, wpl_X9_digest_9 a_now a_past n_saved a_errors K n8 0 2741)
set_option maxRecDepth 100000 in
set_option maxHeartbeats 4000000 in
theorem ct_X9_digest (l : Launch) (E : EN) (h0 : Nat) (h1 : Nat) (h2 : Nat) (h3 : Nat) (a_now : Nat → Int32) (a_past : Nat → Int32) (n_saved : Int32) (a_errors : Nat → Int32) (n_hash : Int64) (K : Int64 → Int64 → Prop) (hw : wp_X9_digest a_now a_past n_saved a_errors n_hash K) : Con l yX9_digest cX9_digest 2 (some .long) { frames := 4, cells := 0, slots := 0, locals := 89 } E [.ref h0] [(h0, .inr (8, [.ref h1, .ref h2, .int n_saved, .ref h3, .long n_hash])), (h1, .inl (E.2.1, 404, .inl a_now)), (h2, .inl (E.2.1, 1212, .inl a_past)), (h3, .inl (E.2.1, 9, .inl a_errors))] (po_X9_digest E h0 h1 h2 h3 a_now a_past n_saved a_errors K) := by
  refine Con.mk (by decide +kernel) (Nat.le_of_ble_eq_true rfl) ?_
  intro p e s m below meth c A hC hr hin
  have hC : Cx p s m _ meth c E A cX9_digest 2 "CookieServerModel" := hC
  rw [wp_X9_digest] at hw
  refine V_cast [(0, .ref h0)] [] [(h0, .inr (8, [.ref h1, .ref h2, .int n_saved, .ref h3, .long n_hash])), (h1, .inl (E.2.1, 404, .inl a_now)), (h2, .inl (E.2.1, 1212, .inl a_past)), (h3, .inl (E.2.1, 9, .inl a_errors))] [0] [0, 1, 2, 3] rfl rfl rfl rfl ?_
  refine V_aload_n hC 0 rfl rfl dX9_digest_0 ?_
  refine V_ldc2 hC 2741 wd_844 dX9_digest_1 ?_
  refine V_put hC [(h0, .inr (8, [.ref h1, .ref h2, .int n_saved, .ref h3, .long 2741])), (h1, .inl (E.2.1, 404, .inl a_now)), (h2, .inl (E.2.1, 1212, .inl a_past)), (h3, .inl (E.2.1, 9, .inl a_errors))] inX9 tyX9_ok nmX9 rfl 4 (by decide) wd_615 rfl (ty := .long) (by decide +kernel) rfl rfl 0 rfl (Nat.le_of_ble_eq_true rfl) rfl dX9_digest_4 ?_
  refine V_iconst hC 0 dX9_digest_7 (by decide) ?_
  refine V_istore_n hC [(1, .int 0), (0, .ref h0)] rfl (by decide) rfl dX9_digest_8 ?_
  refine V_cast [(0, .ref h0), (1, .int 0)] [] [(h0, .inr (8, [.ref h1, .ref h2, .int n_saved, .ref h3, .long 2741])), (h1, .inl (E.2.1, 404, .inl a_now)), (h2, .inl (E.2.1, 1212, .inl a_past)), (h3, .inl (E.2.1, 9, .inl a_errors))] [1, 0] [0, 1, 2, 3] rfl rfl rfl rfl ?_
  obtain ⟨n8, hw⟩ := hw
  exact bl_X9_digest_9 hC hr h0 h1 h2 h3 a_now a_past n_saved a_errors K n8 0 2741 hw
