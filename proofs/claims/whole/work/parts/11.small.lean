abbrev po_X3_copyFrom (E : EN) (h0 : Nat) (h1 : Nat) (o0 : Nat) (o1 : Nat) (a_counts_o : Nat → Int32) (K : (Nat → Int32) → Prop) : Option Value → va_W → Prop := fun v ws' => ∃ (a_counts : Nat → Int32), v = none ∧ ws' = [(h0, .inr (2, [.ref h1])), (h1, .inl (E.2.1, 16, .inl a_counts)), (o0, .inr (2, [.ref o1])), (o1, .inl (E.2.1, 16, .inl a_counts_o))] ∧ K a_counts
def wp_X3_copyFrom (a_counts : Nat → Int32) (a_counts_o : Nat → Int32) (K : (Nat → Int32) → Prop) : Prop := (∀ f1 : Nat → Int32, f1 = va_cpy a_counts_o a_counts 0 0 16 → K f1)
set_option maxRecDepth 100000 in
set_option maxHeartbeats 4000000 in
theorem ct_X3_copyFrom (l : Launch) (E : EN) (h0 : Nat) (h1 : Nat) (o0 : Nat) (o1 : Nat) (a_counts : Nat → Int32) (a_counts_o : Nat → Int32) (K : (Nat → Int32) → Prop) (hw : wp_X3_copyFrom a_counts a_counts_o K) : Con l yX3_copyFrom cX3_copyFrom 2 (none) { frames := 1, cells := 0, slots := 0, locals := 46 } E [.ref h0, .ref o0] [(h0, .inr (2, [.ref h1])), (h1, .inl (E.2.1, 16, .inl a_counts)), (o0, .inr (2, [.ref o1])), (o1, .inl (E.2.1, 16, .inl a_counts_o))] (po_X3_copyFrom E h0 h1 o0 o1 a_counts_o K) := by
  refine Con.mk (by decide +kernel) (Nat.le_of_ble_eq_true rfl) ?_
  intro p e s m below meth c A hC hr hin
  have hC : Cx p s m _ meth c E A cX3_copyFrom 2 "CookieServer$Openings" := hC
  rw [wp_X3_copyFrom] at hw
  refine V_cast [(0, .ref h0), (1, .ref o0)] [] [(h0, .inr (2, [.ref h1])), (h1, .inl (E.2.1, 16, .inl a_counts)), (o0, .inr (2, [.ref o1])), (o1, .inl (E.2.1, 16, .inl a_counts_o))] [0, 1] [0, 1, 2, 3] rfl rfl rfl rfl ?_
  refine V_aload_n hC 1 rfl rfl dX3_copyFrom_0 ?_
  refine V_get hC inX3 rfl 0 (by decide) wd_64 2 rfl rfl dX3_copyFrom_1 ?_
  refine V_iconst hC 0 dX3_copyFrom_4 (by decide) ?_
  refine V_aload_n hC 0 rfl rfl dX3_copyFrom_5 ?_
  refine V_get hC inX3 rfl 0 (by decide) wd_64 0 rfl rfl dX3_copyFrom_6 ?_
  refine V_iconst hC 0 dX3_copyFrom_9 (by decide) ?_
  refine V_bipush hC 16 dX3_copyFrom_10 (by decide) ?_
  refine V_copy hC 16 wd_242 wd_244 wd_243 wd_41 3 1 rfl rfl (by decide) (by decide) (by decide) (by decide) (Nat.le_of_ble_eq_true rfl) (Nat.le_of_ble_eq_true rfl) dX3_copyFrom_12 (fun f1 ef1 => ?_)
  have hw := hw f1 ef1
  refine V_ws [(h0, .inr (2, [.ref h1])), (h1, .inl (E.2.1, 16, .inl f1)), (o0, .inr (2, [.ref o1])), (o1, .inl (E.2.1, 16, .inl a_counts_o))] rfl ?_
  exact V_vret hC hr ⟨f1, rfl, rfl, hw⟩ dX3_copyFrom_15
abbrev po_X3_countAt (E : EN) (h0 : Nat) (h1 : Nat) (K : (Nat → Int32) → Prop) : Option Value → va_W → Prop := fun v ws' => ∃ (a_counts : Nat → Int32), v = none ∧ ws' = [(h0, .inr (2, [.ref h1])), (h1, .inl (E.2.1, 16, .inl a_counts))] ∧ K a_counts
def wp_X3_countAt (a_counts : Nat → Int32) (p1 : Int32) (K : (Nat → Int32) → Prop) : Prop := (wp_J9_floorMod_7cf53 p1 16 (fun (r1 : Int32) => (vp_in r1 16 ∧ (vp_in r1 16 ∧ (∀ f2 : Nat → Int32, f2 = upd a_counts (Int32.toNatClampNeg r1) ((a_counts (Int32.toNatClampNeg r1)) + 1) → K f2)))))
set_option maxRecDepth 100000 in
set_option maxHeartbeats 4000000 in
theorem ct_X3_countAt (l : Launch) (E : EN) (h0 : Nat) (h1 : Nat) (a_counts : Nat → Int32) (p1 : Int32) (K : (Nat → Int32) → Prop) (hw : wp_X3_countAt a_counts p1 K) : Con l yX3_countAt cX3_countAt 2 (none) { frames := 1, cells := 0, slots := 0, locals := 22 } E [.ref h0, .int p1] [(h0, .inr (2, [.ref h1])), (h1, .inl (E.2.1, 16, .inl a_counts))] (po_X3_countAt E h0 h1 K) := by
  refine Con.mk (by decide +kernel) (Nat.le_of_ble_eq_true rfl) ?_
  intro p e s m below meth c A hC hr hin
  have hC : Cx p s m _ meth c E A cX3_countAt 2 "CookieServer$Openings" := hC
  rw [wp_X3_countAt] at hw
  refine V_cast [(0, .ref h0), (1, .int p1)] [] [(h0, .inr (2, [.ref h1])), (h1, .inl (E.2.1, 16, .inl a_counts))] [0, 1] [0, 1] rfl rfl rfl rfl ?_
  refine V_aload_n hC 0 rfl rfl dX3_countAt_0 ?_
  refine V_get hC inX3 rfl 0 (by decide) wd_64 0 rfl rfl dX3_countAt_1 ?_
  refine V_iload_n hC 1 rfl rfl dX3_countAt_4 ?_
  refine V_bipush hC 16 dX3_countAt_5 (by decide) ?_
  refine V_callS hC (wr := [(h0, .inr (2, [.ref h1])), (h1, .inl (E.2.1, 16, .inl a_counts))]) 2 [.int p1, .int 16] [.ref h1] (ct_J9_floorMod_7cf53 l E p1 16 _ hw) wd_278 wd_42 wd_276 wd_277 (by decide +kernel) rfl ⟨Nat.le_of_ble_eq_true rfl, Nat.le_of_ble_eq_true rfl⟩ [] [0, 1] rfl rfl rfl rfl (by decide) rfl (Nat.le_of_ble_eq_true rfl) ⟨Nat.le_of_ble_eq_true rfl, Nat.le_of_ble_eq_true rfl⟩ dX3_countAt_7 (fun v ws' hp => ?_)
  obtain ⟨r1, rfl, rfl, hw⟩ := hp
  refine V_cast [(0, .ref h0), (1, .int p1)] [.int r1, .ref h1] [(h0, .inr (2, [.ref h1])), (h1, .inl (E.2.1, 16, .inl a_counts))] [0, 1] [0, 1] rfl rfl rfl rfl ?_
  refine V_dup2 hC rfl rfl dX3_countAt_10 ?_
  refine V_iald hC _ rfl 1 rfl hw.1 dX3_countAt_11 ?_
  have hw := hw.2
  refine V_iconst hC 1 dX3_countAt_12 (by decide) ?_
  refine V_iadd hC dX3_countAt_13 ?_
  refine V_iast hC _ rfl 1 rfl hw.1 dX3_countAt_14 (fun f2 ef2 => ?_)
  have hw := hw.2
  have hw := hw f2 ef2
  refine V_ws [(h0, .inr (2, [.ref h1])), (h1, .inl (E.2.1, 16, .inl f2))] rfl ?_
  exact V_vret hC hr ⟨f2, rfl, rfl, hw⟩ dX3_countAt_15
abbrev po_X3_pass (E : EN) (h0 : Nat) (h1 : Nat) (K : (Nat → Int32) → Prop) : Option Value → va_W → Prop := fun v ws' => ∃ (a_counts : Nat → Int32), v = none ∧ ws' = [(h0, .inr (2, [.ref h1])), (h1, .inl (E.2.1, 16, .inl a_counts))] ∧ K a_counts
def wpl_X3_pass_10 (K : (Nat → Int32) → Prop) : Nat → Int32 → Int32 → Int32 → Int32 → (Nat → Int32) → Prop
  | 0, _, _, _, _, _ => False
  | n9 + 1, x1, x2, x3, x4, a_counts => ((x3 < x4 → K a_counts) ∧ (¬ (x3 < x4) → (wp_J9_floorMod_7cf53 (x1 + x4) 16 (fun (r2 : Int32) => (vp_in r2 16 ∧ (∀ f3 : Nat → Int32, f3 = upd a_counts (Int32.toNatClampNeg r2) 0 → wpl_X3_pass_10 K n9 x1 x2 x3 (x4 + 1) f3))))))
set_option maxRecDepth 100000 in
set_option maxHeartbeats 4000000 in
theorem bl_X3_pass_10 {p : Program} {l : Launch} {e : Env} {s : State} {m : MethodId} {args : Array Value} {below : List Frame} {meth : Method} {c : Code} {E : EN} {A : Nat → Prop} (hC : Cx p s m args meth c E A cX3_pass 5 "CookieServer$Openings") (hr : meth.sig.returnType = none) (h0 : Nat) (h1 : Nat) (K : (Nat → Int32) → Prop) : ∀ (n8 : Nat) (x1 : Int32) (x2 : Int32) (x3 : Int32) (x4 : Int32) (a_counts : Nat → Int32), wpl_X3_pass_10 K n8 x1 x2 x3 x4 a_counts → V p l e { frames := 1, cells := 0, slots := 0, locals := 46 } s m args below meth c E A 5 0 0 (MQ below (QP E (po_X3_pass E h0 h1 K) A) args s 0 0 A) 10 [(0, .ref h0), (1, .int x1), (2, .int x2), (3, .int x3), (4, .int x4)] [] [(h0, .inr (2, [.ref h1])), (h1, .inl (E.2.1, 16, .inl a_counts))] := by
  intro n8
  induction n8 with
  | zero => intro x1 x2 x3 x4 a_counts hw; rw [wpl_X3_pass_10] at hw; exact hw.elim
  | succ n9 ih =>
    intro x1 x2 x3 x4 a_counts hw
    rw [wpl_X3_pass_10] at hw
    refine V_iload hC 4 rfl dX3_pass_10 ?_
    refine V_iload_n hC 3 rfl rfl dX3_pass_12 ?_
    refine V_icmp_gt hC 37 (by decide) dX3_pass_13 (fun c1 => ?_) (fun c1 => ?_)
    · have hw := hw.1 c1
      exact V_vret hC hr ⟨a_counts, rfl, rfl, hw⟩ dX3_pass_37
    · have hw := hw.2 c1
      refine V_aload_n hC 0 rfl rfl dX3_pass_16 ?_
      refine V_get hC inX3 rfl 0 (by decide) wd_64 0 rfl rfl dX3_pass_17 ?_
      refine V_iload_n hC 1 rfl rfl dX3_pass_20 ?_
      refine V_iload hC 4 rfl dX3_pass_21 ?_
      refine V_iadd hC dX3_pass_23 ?_
      refine V_bipush hC 16 dX3_pass_24 (by decide) ?_
      refine V_callS hC (wr := [(h0, .inr (2, [.ref h1])), (h1, .inl (E.2.1, 16, .inl a_counts))]) 2 [.int (x1 + x4), .int 16] [.ref h1] (ct_J9_floorMod_7cf53 l E (x1 + x4) 16 _ hw) wd_278 wd_42 wd_276 wd_277 (by decide +kernel) rfl ⟨Nat.le_of_ble_eq_true rfl, Nat.le_of_ble_eq_true rfl⟩ [] [0, 1] rfl rfl rfl rfl (by decide) rfl (Nat.le_of_ble_eq_true rfl) ⟨Nat.le_of_ble_eq_true rfl, Nat.le_of_ble_eq_true rfl⟩ dX3_pass_26 (fun v ws' hp => ?_)
      obtain ⟨r2, rfl, rfl, hw⟩ := hp
      refine V_cast [(0, .ref h0), (1, .int x1), (2, .int x2), (3, .int x3), (4, .int x4)] [.int r2, .ref h1] [(h0, .inr (2, [.ref h1])), (h1, .inl (E.2.1, 16, .inl a_counts))] [0, 1, 2, 3, 4] [0, 1] rfl rfl rfl rfl ?_
      refine V_iconst hC 0 dX3_pass_29 (by decide) ?_
      refine V_iast hC _ rfl 1 rfl hw.1 dX3_pass_30 (fun f3 ef3 => ?_)
      have hw := hw.2
      have hw := hw f3 ef3
      refine V_ws [(h0, .inr (2, [.ref h1])), (h1, .inl (E.2.1, 16, .inl f3))] rfl ?_
      refine V_iinc hC (x4 + 1) 4 [(4, .int (x4 + 1)), (0, .ref h0), (1, .int x1), (2, .int x2), (3, .int x3)] rfl (congrArg (fun z => x4 + z) (by decide : Int32.ofInt (1) = (1 : Int32))) (by decide) rfl dX3_pass_31 ?_
      refine V_goto hC 10 (by decide) dX3_pass_34 ?_
      refine V_cast [(0, .ref h0), (1, .int x1), (2, .int x2), (3, .int x3), (4, .int (x4 + 1))] [] [(h0, .inr (2, [.ref h1])), (h1, .inl (E.2.1, 16, .inl f3))] [1, 2, 3, 4, 0] [0, 1] rfl rfl rfl rfl ?_
      exact ih x1 x2 x3 (x4 + 1) f3 hw
def wp_X3_pass (a_counts : Nat → Int32) (p1 : Int32) (p2 : Int32) (K : (Nat → Int32) → Prop) : Prop := (∃ n8 : Nat, wpl_X3_pass_10 K n8 p1 p2 (if 16 < p2 then 16 else p2) 1 a_counts)
set_option maxRecDepth 100000 in
set_option maxHeartbeats 4000000 in
theorem ct_X3_pass (l : Launch) (E : EN) (h0 : Nat) (h1 : Nat) (a_counts : Nat → Int32) (p1 : Int32) (p2 : Int32) (K : (Nat → Int32) → Prop) (hw : wp_X3_pass a_counts p1 p2 K) : Con l yX3_pass cX3_pass 5 (none) { frames := 1, cells := 0, slots := 0, locals := 46 } E [.ref h0, .int p1, .int p2] [(h0, .inr (2, [.ref h1])), (h1, .inl (E.2.1, 16, .inl a_counts))] (po_X3_pass E h0 h1 K) := by
  refine Con.mk (by decide +kernel) (Nat.le_of_ble_eq_true rfl) ?_
  intro p e s m below meth c A hC hr hin
  have hC : Cx p s m _ meth c E A cX3_pass 5 "CookieServer$Openings" := hC
  rw [wp_X3_pass] at hw
  refine V_cast [(0, .ref h0), (1, .int p1), (2, .int p2)] [] [(h0, .inr (2, [.ref h1])), (h1, .inl (E.2.1, 16, .inl a_counts))] [0, 1, 2] [0, 1] rfl rfl rfl rfl ?_
  refine V_iload_n hC 2 rfl rfl dX3_pass_0 ?_
  refine V_bipush hC 16 dX3_pass_1 (by decide) ?_
  refine V_min hC wd_273 wd_274 wd_42 wd_275 (Nat.le_of_ble_eq_true rfl) (Nat.le_of_ble_eq_true rfl) (Nat.le_of_ble_eq_true rfl) (Nat.le_of_ble_eq_true rfl) dX3_pass_3 ?_
  refine V_istore_n hC [(3, .int (if 16 < p2 then 16 else p2)), (0, .ref h0), (1, .int p1), (2, .int p2)] rfl (by decide) rfl dX3_pass_6 ?_
  refine V_iconst hC 1 dX3_pass_7 (by decide) ?_
  refine V_istore hC [(4, .int 1), (3, .int (if 16 < p2 then 16 else p2)), (0, .ref h0), (1, .int p1), (2, .int p2)] (by decide) rfl dX3_pass_8 ?_
  refine V_cast [(0, .ref h0), (1, .int p1), (2, .int p2), (3, .int (if 16 < p2 then 16 else p2)), (4, .int 1)] [] [(h0, .inr (2, [.ref h1])), (h1, .inl (E.2.1, 16, .inl a_counts))] [2, 3, 4, 1, 0] [0, 1] rfl rfl rfl rfl ?_
  obtain ⟨n8, hw⟩ := hw
  exact bl_X3_pass_10 hC hr h0 h1 K n8 p1 p2 (if 16 < p2 then 16 else p2) 1 a_counts hw
abbrev po_X3_total (E : EN) (h0 : Nat) (h1 : Nat) (a_counts : Nat → Int32) (K : Int32 → Prop) : Option Value → va_W → Prop := fun v ws' => ∃ (r0 : Int32), v = some (.int r0) ∧ ws' = [(h0, .inr (2, [.ref h1])), (h1, .inl (E.2.1, 16, .inl a_counts))] ∧ K r0
def wpl_X3_total_4 (a_counts : Nat → Int32) (K : Int32 → Prop) : Nat → Int32 → Int32 → Prop
  | 0, _, _ => False
  | n9 + 1, x1, x2 => ((16 ≤ x2 → K x1) ∧ (¬ (16 ≤ x2) → (vp_in x2 16 ∧ wpl_X3_total_4 a_counts K n9 (x1 + (a_counts (Int32.toNatClampNeg x2))) (x2 + 1))))
set_option maxRecDepth 100000 in
set_option maxHeartbeats 4000000 in
theorem bl_X3_total_4 {p : Program} {l : Launch} {e : Env} {s : State} {m : MethodId} {args : Array Value} {below : List Frame} {meth : Method} {c : Code} {E : EN} {A : Nat → Prop} (hC : Cx p s m args meth c E A cX3_total 3 "CookieServer$Openings") (hr : meth.sig.returnType = some .int) (h0 : Nat) (h1 : Nat) (a_counts : Nat → Int32) (K : Int32 → Prop) : ∀ (n8 : Nat) (x1 : Int32) (x2 : Int32), wpl_X3_total_4 a_counts K n8 x1 x2 → V p l e { frames := 0, cells := 0, slots := 0, locals := 0 } s m args below meth c E A 3 0 0 (MQ below (QP E (po_X3_total E h0 h1 a_counts K) A) args s 0 0 A) 4 [(0, .ref h0), (1, .int x1), (2, .int x2)] [] [(h0, .inr (2, [.ref h1])), (h1, .inl (E.2.1, 16, .inl a_counts))] := by
  intro n8
  induction n8 with
  | zero => intro x1 x2 hw; rw [wpl_X3_total_4] at hw; exact hw.elim
  | succ n9 ih =>
    intro x1 x2 hw
    rw [wpl_X3_total_4] at hw
    refine V_iload_n hC 2 rfl rfl dX3_total_4 ?_
    refine V_bipush hC 16 dX3_total_5 (by decide) ?_
    refine V_icmp_ge hC 25 (by decide) dX3_total_7 (fun c1 => ?_) (fun c1 => ?_)
    · have hw := hw.1 c1
      refine V_iload_n hC 1 rfl rfl dX3_total_25 ?_
      exact V_iret hC hr ⟨x1, rfl, rfl, hw⟩ dX3_total_26
    · have hw := hw.2 c1
      refine V_iload_n hC 1 rfl rfl dX3_total_10 ?_
      refine V_aload_n hC 0 rfl rfl dX3_total_11 ?_
      refine V_get hC inX3 rfl 0 (by decide) wd_64 0 rfl rfl dX3_total_12 ?_
      refine V_iload_n hC 2 rfl rfl dX3_total_15 ?_
      refine V_iald hC _ rfl 1 rfl hw.1 dX3_total_16 ?_
      have hw := hw.2
      refine V_iadd hC dX3_total_17 ?_
      refine V_istore_n hC [(1, .int (x1 + (a_counts (Int32.toNatClampNeg x2)))), (0, .ref h0), (2, .int x2)] rfl (by decide) rfl dX3_total_18 ?_
      refine V_iinc hC (x2 + 1) 2 [(2, .int (x2 + 1)), (1, .int (x1 + (a_counts (Int32.toNatClampNeg x2)))), (0, .ref h0)] rfl (congrArg (fun z => x2 + z) (by decide : Int32.ofInt (1) = (1 : Int32))) (by decide) rfl dX3_total_19 ?_
      refine V_goto hC 4 (by decide) dX3_total_22 ?_
      refine V_cast [(0, .ref h0), (1, .int (x1 + (a_counts (Int32.toNatClampNeg x2)))), (2, .int (x2 + 1))] [] [(h0, .inr (2, [.ref h1])), (h1, .inl (E.2.1, 16, .inl a_counts))] [2, 1, 0] [0, 1] rfl rfl rfl rfl ?_
      exact ih (x1 + (a_counts (Int32.toNatClampNeg x2))) (x2 + 1) hw
def wp_X3_total (a_counts : Nat → Int32) (K : Int32 → Prop) : Prop := (∃ n8 : Nat, wpl_X3_total_4 a_counts K n8 0 0)
set_option maxRecDepth 100000 in
set_option maxHeartbeats 4000000 in
theorem ct_X3_total (l : Launch) (E : EN) (h0 : Nat) (h1 : Nat) (a_counts : Nat → Int32) (K : Int32 → Prop) (hw : wp_X3_total a_counts K) : Con l yX3_total cX3_total 3 (some .int) { frames := 0, cells := 0, slots := 0, locals := 0 } E [.ref h0] [(h0, .inr (2, [.ref h1])), (h1, .inl (E.2.1, 16, .inl a_counts))] (po_X3_total E h0 h1 a_counts K) := by
  refine Con.mk (by decide +kernel) (Nat.le_of_ble_eq_true rfl) ?_
  intro p e s m below meth c A hC hr hin
  have hC : Cx p s m _ meth c E A cX3_total 3 "CookieServer$Openings" := hC
  rw [wp_X3_total] at hw
  refine V_cast [(0, .ref h0)] [] [(h0, .inr (2, [.ref h1])), (h1, .inl (E.2.1, 16, .inl a_counts))] [0] [0, 1] rfl rfl rfl rfl ?_
  refine V_iconst hC 0 dX3_total_0 (by decide) ?_
  refine V_istore_n hC [(1, .int 0), (0, .ref h0)] rfl (by decide) rfl dX3_total_1 ?_
  refine V_iconst hC 0 dX3_total_2 (by decide) ?_
  refine V_istore_n hC [(2, .int 0), (1, .int 0), (0, .ref h0)] rfl (by decide) rfl dX3_total_3 ?_
  refine V_cast [(0, .ref h0), (1, .int 0), (2, .int 0)] [] [(h0, .inr (2, [.ref h1])), (h1, .inl (E.2.1, 16, .inl a_counts))] [2, 1, 0] [0, 1] rfl rfl rfl rfl ?_
  obtain ⟨n8, hw⟩ := hw
  exact bl_X3_total_4 hC hr h0 h1 a_counts K n8 0 0 hw
abbrev po_X4_copyFrom (E : EN) (h0 : Nat) (h1 : Nat) (o0 : Nat) (o1 : Nat) (a_codes_o : Nat → Int32) (n_total_o : Int32) (K : (Nat → Int32) → Int32 → Prop) : Option Value → va_W → Prop := fun v ws' => ∃ (a_codes : Nat → Int32) (n_total : Int32), v = none ∧ ws' = [(h0, .inr (3, [.ref h1, .int n_total])), (h1, .inl (E.2.1, 128, .inl a_codes)), (o0, .inr (3, [.ref o1, .int n_total_o])), (o1, .inl (E.2.1, 128, .inl a_codes_o))] ∧ K a_codes n_total
def wp_X4_copyFrom (a_codes : Nat → Int32) (n_total : Int32) (a_codes_o : Nat → Int32) (n_total_o : Int32) (K : (Nat → Int32) → Int32 → Prop) : Prop := (∀ f1 : Nat → Int32, f1 = va_cpy a_codes_o a_codes 0 0 128 → K f1 n_total_o)
set_option maxRecDepth 100000 in
set_option maxHeartbeats 4000000 in
theorem ct_X4_copyFrom (l : Launch) (E : EN) (h0 : Nat) (h1 : Nat) (o0 : Nat) (o1 : Nat) (a_codes : Nat → Int32) (n_total : Int32) (a_codes_o : Nat → Int32) (n_total_o : Int32) (K : (Nat → Int32) → Int32 → Prop) (hw : wp_X4_copyFrom a_codes n_total a_codes_o n_total_o K) : Con l yX4_copyFrom cX4_copyFrom 2 (none) { frames := 1, cells := 0, slots := 0, locals := 46 } E [.ref h0, .ref o0] [(h0, .inr (3, [.ref h1, .int n_total])), (h1, .inl (E.2.1, 128, .inl a_codes)), (o0, .inr (3, [.ref o1, .int n_total_o])), (o1, .inl (E.2.1, 128, .inl a_codes_o))] (po_X4_copyFrom E h0 h1 o0 o1 a_codes_o n_total_o K) := by
  refine Con.mk (by decide +kernel) (Nat.le_of_ble_eq_true rfl) ?_
  intro p e s m below meth c A hC hr hin
  have hC : Cx p s m _ meth c E A cX4_copyFrom 2 "CookieServer$Ports" := hC
  rw [wp_X4_copyFrom] at hw
  refine V_cast [(0, .ref h0), (1, .ref o0)] [] [(h0, .inr (3, [.ref h1, .int n_total])), (h1, .inl (E.2.1, 128, .inl a_codes)), (o0, .inr (3, [.ref o1, .int n_total_o])), (o1, .inl (E.2.1, 128, .inl a_codes_o))] [0, 1] [0, 1, 2, 3] rfl rfl rfl rfl ?_
  refine V_aload_n hC 1 rfl rfl dX4_copyFrom_0 ?_
  refine V_get hC inX4 rfl 0 (by decide) wd_95 2 rfl rfl dX4_copyFrom_1 ?_
  refine V_iconst hC 0 dX4_copyFrom_4 (by decide) ?_
  refine V_aload_n hC 0 rfl rfl dX4_copyFrom_5 ?_
  refine V_get hC inX4 rfl 0 (by decide) wd_95 0 rfl rfl dX4_copyFrom_6 ?_
  refine V_iconst hC 0 dX4_copyFrom_9 (by decide) ?_
  refine V_sipush hC 128 dX4_copyFrom_10 (by decide) ?_
  refine V_copy hC 128 wd_254 wd_244 wd_243 wd_41 3 1 rfl rfl (by decide) (by decide) (by decide) (by decide) (Nat.le_of_ble_eq_true rfl) (Nat.le_of_ble_eq_true rfl) dX4_copyFrom_13 (fun f1 ef1 => ?_)
  have hw := hw f1 ef1
  refine V_ws [(h0, .inr (3, [.ref h1, .int n_total])), (h1, .inl (E.2.1, 128, .inl f1)), (o0, .inr (3, [.ref o1, .int n_total_o])), (o1, .inl (E.2.1, 128, .inl a_codes_o))] rfl ?_
  refine V_aload_n hC 0 rfl rfl dX4_copyFrom_16 ?_
  refine V_aload_n hC 1 rfl rfl dX4_copyFrom_17 ?_
  refine V_get hC inX4 rfl 1 (by decide) wd_96 2 rfl rfl dX4_copyFrom_18 ?_
  refine V_put hC [(h0, .inr (3, [.ref h1, .int n_total_o])), (h1, .inl (E.2.1, 128, .inl f1)), (o0, .inr (3, [.ref o1, .int n_total_o])), (o1, .inl (E.2.1, 128, .inl a_codes_o))] inX4 tyX4_ok nmX4 rfl 1 (by decide) wd_96 rfl (ty := .int) (by decide +kernel) rfl rfl 0 rfl (Nat.le_of_ble_eq_true rfl) rfl dX4_copyFrom_21 ?_
  exact V_vret hC hr ⟨f1, n_total_o, rfl, rfl, hw⟩ dX4_copyFrom_24
abbrev po_X4_isConnected (E : EN) (h0 : Nat) (h1 : Nat) (a_codes : Nat → Int32) (n_total : Int32) (K : Int32 → Prop) : Option Value → va_W → Prop := fun v ws' => ∃ (r0 : Int32), v = some (.int r0) ∧ ws' = [(h0, .inr (3, [.ref h1, .int n_total])), (h1, .inl (E.2.1, 128, .inl a_codes))] ∧ K r0
def wp_X4_isConnected (a_codes : Nat → Int32) (n_total : Int32) (p1 : Int32) (K : Int32 → Prop) : Prop := (vp_in p1 128 ∧ (((a_codes (Int32.toNatClampNeg p1)) ≤ 0 → K 0) ∧ (¬ ((a_codes (Int32.toNatClampNeg p1)) ≤ 0) → K 1)))
set_option maxRecDepth 100000 in
set_option maxHeartbeats 4000000 in
theorem ct_X4_isConnected (l : Launch) (E : EN) (h0 : Nat) (h1 : Nat) (a_codes : Nat → Int32) (n_total : Int32) (p1 : Int32) (K : Int32 → Prop) (hw : wp_X4_isConnected a_codes n_total p1 K) : Con l yX4_isConnected cX4_isConnected 2 (some .boolean) { frames := 0, cells := 0, slots := 0, locals := 0 } E [.ref h0, .int p1] [(h0, .inr (3, [.ref h1, .int n_total])), (h1, .inl (E.2.1, 128, .inl a_codes))] (po_X4_isConnected E h0 h1 a_codes n_total K) := by
  refine Con.mk (by decide +kernel) (Nat.le_of_ble_eq_true rfl) ?_
  intro p e s m below meth c A hC hr hin
  have hC : Cx p s m _ meth c E A cX4_isConnected 2 "CookieServer$Ports" := hC
  rw [wp_X4_isConnected] at hw
  refine V_cast [(0, .ref h0), (1, .int p1)] [] [(h0, .inr (3, [.ref h1, .int n_total])), (h1, .inl (E.2.1, 128, .inl a_codes))] [0, 1] [0, 1] rfl rfl rfl rfl ?_
  refine V_aload_n hC 0 rfl rfl dX4_isConnected_0 ?_
  refine V_get hC inX4 rfl 0 (by decide) wd_95 0 rfl rfl dX4_isConnected_1 ?_
  refine V_iload_n hC 1 rfl rfl dX4_isConnected_4 ?_
  refine V_iald hC _ rfl 1 rfl hw.1 dX4_isConnected_5 ?_
  have hw := hw.2
  refine V_if_le hC 13 (by decide) dX4_isConnected_6 (fun c1 => ?_) (fun c1 => ?_)
  · have hw := hw.1 c1
    refine V_iconst hC 0 dX4_isConnected_13 (by decide) ?_
    exact V_zret hC hr rfl ⟨0, rfl, rfl, hw⟩ dX4_isConnected_14
  · have hw := hw.2 c1
    refine V_iconst hC 1 dX4_isConnected_9 (by decide) ?_
    refine V_goto hC 14 (by decide) dX4_isConnected_10 ?_
    exact V_zret hC hr rfl ⟨1, rfl, rfl, hw⟩ dX4_isConnected_14
abbrev po_X4_isFull (E : EN) (h0 : Nat) (h1 : Nat) (a_codes : Nat → Int32) (n_total : Int32) (K : Int32 → Prop) : Option Value → va_W → Prop := fun v ws' => ∃ (r0 : Int32), v = some (.int r0) ∧ ws' = [(h0, .inr (3, [.ref h1, .int n_total])), (h1, .inl (E.2.1, 128, .inl a_codes))] ∧ K r0
def wp_X4_isFull (a_codes : Nat → Int32) (n_total : Int32) (K : Int32 → Prop) : Prop := ((n_total < 10 → K 0) ∧ (¬ (n_total < 10) → K 1))
set_option maxRecDepth 100000 in
set_option maxHeartbeats 4000000 in
theorem ct_X4_isFull (l : Launch) (E : EN) (h0 : Nat) (h1 : Nat) (a_codes : Nat → Int32) (n_total : Int32) (K : Int32 → Prop) (hw : wp_X4_isFull a_codes n_total K) : Con l yX4_isFull cX4_isFull 1 (some .boolean) { frames := 0, cells := 0, slots := 0, locals := 0 } E [.ref h0] [(h0, .inr (3, [.ref h1, .int n_total])), (h1, .inl (E.2.1, 128, .inl a_codes))] (po_X4_isFull E h0 h1 a_codes n_total K) := by
  refine Con.mk (by decide +kernel) (Nat.le_of_ble_eq_true rfl) ?_
  intro p e s m below meth c A hC hr hin
  have hC : Cx p s m _ meth c E A cX4_isFull 1 "CookieServer$Ports" := hC
  rw [wp_X4_isFull] at hw
  refine V_cast [(0, .ref h0)] [] [(h0, .inr (3, [.ref h1, .int n_total])), (h1, .inl (E.2.1, 128, .inl a_codes))] [0] [0, 1] rfl rfl rfl rfl ?_
  refine V_aload_n hC 0 rfl rfl dX4_isFull_0 ?_
  refine V_get hC inX4 rfl 1 (by decide) wd_96 0 rfl rfl dX4_isFull_1 ?_
  refine V_bipush hC 10 dX4_isFull_4 (by decide) ?_
  refine V_icmp_lt hC 13 (by decide) dX4_isFull_6 (fun c1 => ?_) (fun c1 => ?_)
  · have hw := hw.1 c1
    refine V_iconst hC 0 dX4_isFull_13 (by decide) ?_
    exact V_zret hC hr rfl ⟨0, rfl, rfl, hw⟩ dX4_isFull_14
  · have hw := hw.2 c1
    refine V_iconst hC 1 dX4_isFull_9 (by decide) ?_
    refine V_goto hC 14 (by decide) dX4_isFull_10 ?_
    exact V_zret hC hr rfl ⟨1, rfl, rfl, hw⟩ dX4_isFull_14
abbrev po_X4_optionAt (E : EN) (h0 : Nat) (h1 : Nat) (a_codes : Nat → Int32) (n_total : Int32) (K : Int32 → Prop) : Option Value → va_W → Prop := fun v ws' => ∃ (r0 : Int32), v = some (.int r0) ∧ ws' = [(h0, .inr (3, [.ref h1, .int n_total])), (h1, .inl (E.2.1, 128, .inl a_codes))] ∧ K r0
def wp_X4_optionAt (a_codes : Nat → Int32) (n_total : Int32) (p1 : Int32) (K : Int32 → Prop) : Prop := (vp_in p1 128 ∧ K ((a_codes (Int32.toNatClampNeg p1)) - 1))
set_option maxRecDepth 100000 in
set_option maxHeartbeats 4000000 in
theorem ct_X4_optionAt (l : Launch) (E : EN) (h0 : Nat) (h1 : Nat) (a_codes : Nat → Int32) (n_total : Int32) (p1 : Int32) (K : Int32 → Prop) (hw : wp_X4_optionAt a_codes n_total p1 K) : Con l yX4_optionAt cX4_optionAt 2 (some .int) { frames := 0, cells := 0, slots := 0, locals := 0 } E [.ref h0, .int p1] [(h0, .inr (3, [.ref h1, .int n_total])), (h1, .inl (E.2.1, 128, .inl a_codes))] (po_X4_optionAt E h0 h1 a_codes n_total K) := by
  refine Con.mk (by decide +kernel) (Nat.le_of_ble_eq_true rfl) ?_
  intro p e s m below meth c A hC hr hin
  have hC : Cx p s m _ meth c E A cX4_optionAt 2 "CookieServer$Ports" := hC
  rw [wp_X4_optionAt] at hw
  refine V_cast [(0, .ref h0), (1, .int p1)] [] [(h0, .inr (3, [.ref h1, .int n_total])), (h1, .inl (E.2.1, 128, .inl a_codes))] [0, 1] [0, 1] rfl rfl rfl rfl ?_
  refine V_aload_n hC 0 rfl rfl dX4_optionAt_0 ?_
  refine V_get hC inX4 rfl 0 (by decide) wd_95 0 rfl rfl dX4_optionAt_1 ?_
  refine V_iload_n hC 1 rfl rfl dX4_optionAt_4 ?_
  refine V_iald hC _ rfl 1 rfl hw.1 dX4_optionAt_5 ?_
  have hw := hw.2
  refine V_iconst hC 1 dX4_optionAt_6 (by decide) ?_
  refine V_isub hC dX4_optionAt_7 ?_
  exact V_iret hC hr ⟨(a_codes (Int32.toNatClampNeg p1)) - 1, rfl, rfl, hw⟩ dX4_optionAt_8
abbrev po_X4_countOf (E : EN) (h0 : Nat) (h1 : Nat) (a_codes : Nat → Int32) (n_total : Int32) (K : Int32 → Prop) : Option Value → va_W → Prop := fun v ws' => ∃ (r0 : Int32), v = some (.int r0) ∧ ws' = [(h0, .inr (3, [.ref h1, .int n_total])), (h1, .inl (E.2.1, 128, .inl a_codes))] ∧ K r0
def wpl_X4_countOf_4 (a_codes : Nat → Int32) (n_total : Int32) (K : Int32 → Prop) : Nat → Int32 → Int32 → Int32 → Prop
  | 0, _, _, _ => False
  | n9 + 1, x1, x2, x3 => ((8 ≤ x3 → K x2) ∧ (¬ (8 ≤ x3) → (wp_X8_placeOf x1 x3 (fun (r2 : Int32) => (wp_X4_isConnected a_codes n_total r2 (fun (r3 : Int32) => ((r3 = 0 → wpl_X4_countOf_4 a_codes n_total K n9 x1 x2 (x3 + 1)) ∧ (¬ (r3 = 0) → wpl_X4_countOf_4 a_codes n_total K n9 x1 (x2 + 1) (x3 + 1)))))))))
set_option maxRecDepth 100000 in
set_option maxHeartbeats 4000000 in
theorem bl_X4_countOf_4 {p : Program} {l : Launch} {e : Env} {s : State} {m : MethodId} {args : Array Value} {below : List Frame} {meth : Method} {c : Code} {E : EN} {A : Nat → Prop} (hC : Cx p s m args meth c E A cX4_countOf 4 "CookieServer$Ports") (hr : meth.sig.returnType = some .int) (h0 : Nat) (h1 : Nat) (a_codes : Nat → Int32) (n_total : Int32) (K : Int32 → Prop) : ∀ (n8 : Nat) (x1 : Int32) (x2 : Int32) (x3 : Int32), wpl_X4_countOf_4 a_codes n_total K n8 x1 x2 x3 → V p l e { frames := 1, cells := 0, slots := 0, locals := 21 } s m args below meth c E A 4 0 0 (MQ below (QP E (po_X4_countOf E h0 h1 a_codes n_total K) A) args s 0 0 A) 4 [(0, .ref h0), (1, .int x1), (2, .int x2), (3, .int x3)] [] [(h0, .inr (3, [.ref h1, .int n_total])), (h1, .inl (E.2.1, 128, .inl a_codes))] := by
  intro n8
  induction n8 with
  | zero => intro x1 x2 x3 hw; rw [wpl_X4_countOf_4] at hw; exact hw.elim
  | succ n9 ih =>
    intro x1 x2 x3 hw
    rw [wpl_X4_countOf_4] at hw
    refine V_iload_n hC 3 rfl rfl dX4_countOf_4 ?_
    refine V_bipush hC 8 dX4_countOf_5 (by decide) ?_
    refine V_icmp_ge hC 31 (by decide) dX4_countOf_7 (fun c1 => ?_) (fun c1 => ?_)
    · have hw := hw.1 c1
      refine V_iload_n hC 2 rfl rfl dX4_countOf_31 ?_
      exact V_iret hC hr ⟨x2, rfl, rfl, hw⟩ dX4_countOf_32
    · have hw := hw.2 c1
      refine V_aload_n hC 0 rfl rfl dX4_countOf_10 ?_
      refine V_iload_n hC 1 rfl rfl dX4_countOf_11 ?_
      refine V_iload_n hC 3 rfl rfl dX4_countOf_12 ?_
      refine V_callSN hC (wr := [(h0, .inr (3, [.ref h1, .int n_total])), (h1, .inl (E.2.1, 128, .inl a_codes))]) 2 [.int x1, .int x3] [.ref h0] (ct_X8_placeOf l E x1 x3 _ hw) wd_320 wd_32 wd_439 wd_319 (by decide +kernel) rfl ⟨Nat.le_of_ble_eq_true rfl, Nat.le_of_ble_eq_true rfl⟩ [] [0, 1] rfl rfl rfl rfl (by decide) rfl (Nat.le_of_ble_eq_true rfl) ⟨Nat.le_of_ble_eq_true rfl, Nat.le_of_ble_eq_true rfl⟩ dX4_countOf_13 (fun v ws' hp => ?_)
      obtain ⟨r2, rfl, rfl, hw⟩ := hp
      refine V_cast [(0, .ref h0), (1, .int x1), (2, .int x2), (3, .int x3)] [.int r2, .ref h0] [(h0, .inr (3, [.ref h1, .int n_total])), (h1, .inl (E.2.1, 128, .inl a_codes))] [0, 1, 2, 3] [0, 1] rfl rfl rfl rfl ?_
      refine V_callV hC (wr := []) 1 [.int r2] [] (ct_X4_isConnected l E h0 h1 a_codes n_total r2 _ hw) wd_324 wd_36 wd_440 wd_322 wd_323 (by decide +kernel) rfl ⟨Nat.le_of_ble_eq_true rfl, Nat.le_of_ble_eq_true rfl⟩ [0, 1] [] rfl rfl rfl rfl (by decide) rfl rfl rfl (Nat.le_of_ble_eq_true rfl) ⟨Nat.le_of_ble_eq_true rfl, Nat.le_of_ble_eq_true rfl⟩ dX4_countOf_16 (fun v ws' hp => ?_)
      obtain ⟨r3, rfl, rfl, hw⟩ := hp
      refine V_cast [(0, .ref h0), (1, .int x1), (2, .int x2), (3, .int x3)] [.int r3] [(h0, .inr (3, [.ref h1, .int n_total])), (h1, .inl (E.2.1, 128, .inl a_codes))] [0, 1, 2, 3] [0, 1] rfl rfl rfl rfl ?_
      refine V_if_eq hC 25 (by decide) dX4_countOf_19 (fun c4 => ?_) (fun c4 => ?_)
      · have hw := hw.1 c4
        refine V_iinc hC (x3 + 1) 3 [(3, .int (x3 + 1)), (0, .ref h0), (1, .int x1), (2, .int x2)] rfl (congrArg (fun z => x3 + z) (by decide : Int32.ofInt (1) = (1 : Int32))) (by decide) rfl dX4_countOf_25 ?_
        refine V_goto hC 4 (by decide) dX4_countOf_28 ?_
        refine V_cast [(0, .ref h0), (1, .int x1), (2, .int x2), (3, .int (x3 + 1))] [] [(h0, .inr (3, [.ref h1, .int n_total])), (h1, .inl (E.2.1, 128, .inl a_codes))] [1, 2, 3, 0] [0, 1] rfl rfl rfl rfl ?_
        exact ih x1 x2 (x3 + 1) hw
      · have hw := hw.2 c4
        refine V_iinc hC (x2 + 1) 2 [(2, .int (x2 + 1)), (0, .ref h0), (1, .int x1), (3, .int x3)] rfl (congrArg (fun z => x2 + z) (by decide : Int32.ofInt (1) = (1 : Int32))) (by decide) rfl dX4_countOf_22 ?_
        refine V_iinc hC (x3 + 1) 3 [(3, .int (x3 + 1)), (2, .int (x2 + 1)), (0, .ref h0), (1, .int x1)] rfl (congrArg (fun z => x3 + z) (by decide : Int32.ofInt (1) = (1 : Int32))) (by decide) rfl dX4_countOf_25 ?_
        refine V_goto hC 4 (by decide) dX4_countOf_28 ?_
        refine V_cast [(0, .ref h0), (1, .int x1), (2, .int (x2 + 1)), (3, .int (x3 + 1))] [] [(h0, .inr (3, [.ref h1, .int n_total])), (h1, .inl (E.2.1, 128, .inl a_codes))] [2, 3, 1, 0] [0, 1] rfl rfl rfl rfl ?_
        exact ih x1 (x2 + 1) (x3 + 1) hw
def wp_X4_countOf (a_codes : Nat → Int32) (n_total : Int32) (p1 : Int32) (K : Int32 → Prop) : Prop := (∃ n8 : Nat, wpl_X4_countOf_4 a_codes n_total K n8 p1 0 0)
set_option maxRecDepth 100000 in
set_option maxHeartbeats 4000000 in
theorem ct_X4_countOf (l : Launch) (E : EN) (h0 : Nat) (h1 : Nat) (a_codes : Nat → Int32) (n_total : Int32) (p1 : Int32) (K : Int32 → Prop) (hw : wp_X4_countOf a_codes n_total p1 K) : Con l yX4_countOf cX4_countOf 4 (some .int) { frames := 1, cells := 0, slots := 0, locals := 21 } E [.ref h0, .int p1] [(h0, .inr (3, [.ref h1, .int n_total])), (h1, .inl (E.2.1, 128, .inl a_codes))] (po_X4_countOf E h0 h1 a_codes n_total K) := by
  refine Con.mk (by decide +kernel) (Nat.le_of_ble_eq_true rfl) ?_
  intro p e s m below meth c A hC hr hin
  have hC : Cx p s m _ meth c E A cX4_countOf 4 "CookieServer$Ports" := hC
  rw [wp_X4_countOf] at hw
  refine V_cast [(0, .ref h0), (1, .int p1)] [] [(h0, .inr (3, [.ref h1, .int n_total])), (h1, .inl (E.2.1, 128, .inl a_codes))] [0, 1] [0, 1] rfl rfl rfl rfl ?_
  refine V_iconst hC 0 dX4_countOf_0 (by decide) ?_
  refine V_istore_n hC [(2, .int 0), (0, .ref h0), (1, .int p1)] rfl (by decide) rfl dX4_countOf_1 ?_
  refine V_iconst hC 0 dX4_countOf_2 (by decide) ?_
  refine V_istore_n hC [(3, .int 0), (2, .int 0), (0, .ref h0), (1, .int p1)] rfl (by decide) rfl dX4_countOf_3 ?_
  refine V_cast [(0, .ref h0), (1, .int p1), (2, .int 0), (3, .int 0)] [] [(h0, .inr (3, [.ref h1, .int n_total])), (h1, .inl (E.2.1, 128, .inl a_codes))] [2, 3, 1, 0] [0, 1] rfl rfl rfl rfl ?_
  obtain ⟨n8, hw⟩ := hw
  exact bl_X4_countOf_4 hC hr h0 h1 a_codes n_total K n8 p1 0 0 hw
abbrev po_X4_connect (E : EN) (h0 : Nat) (h1 : Nat) (K : (Nat → Int32) → Int32 → Prop) : Option Value → va_W → Prop := fun v ws' => ∃ (a_codes : Nat → Int32) (n_total : Int32), v = none ∧ ws' = [(h0, .inr (3, [.ref h1, .int n_total])), (h1, .inl (E.2.1, 128, .inl a_codes))] ∧ K a_codes n_total
def wp_X4_connect (a_codes : Nat → Int32) (n_total : Int32) (p1 : Int32) (p2 : Int32) (K : (Nat → Int32) → Int32 → Prop) : Prop := (vp_in p1 128 ∧ (∀ f1 : Nat → Int32, f1 = upd a_codes (Int32.toNatClampNeg p1) (1 + p2) → K f1 (n_total + 1)))
set_option maxRecDepth 100000 in
set_option maxHeartbeats 4000000 in
theorem ct_X4_connect (l : Launch) (E : EN) (h0 : Nat) (h1 : Nat) (a_codes : Nat → Int32) (n_total : Int32) (p1 : Int32) (p2 : Int32) (K : (Nat → Int32) → Int32 → Prop) (hw : wp_X4_connect a_codes n_total p1 p2 K) : Con l yX4_connect cX4_connect 3 (none) { frames := 0, cells := 0, slots := 0, locals := 0 } E [.ref h0, .int p1, .int p2] [(h0, .inr (3, [.ref h1, .int n_total])), (h1, .inl (E.2.1, 128, .inl a_codes))] (po_X4_connect E h0 h1 K) := by
  refine Con.mk (by decide +kernel) (Nat.le_of_ble_eq_true rfl) ?_
  intro p e s m below meth c A hC hr hin
  have hC : Cx p s m _ meth c E A cX4_connect 3 "CookieServer$Ports" := hC
  rw [wp_X4_connect] at hw
  refine V_cast [(0, .ref h0), (1, .int p1), (2, .int p2)] [] [(h0, .inr (3, [.ref h1, .int n_total])), (h1, .inl (E.2.1, 128, .inl a_codes))] [0, 1, 2] [0, 1] rfl rfl rfl rfl ?_
  refine V_aload_n hC 0 rfl rfl dX4_connect_0 ?_
  refine V_get hC inX4 rfl 0 (by decide) wd_95 0 rfl rfl dX4_connect_1 ?_
  refine V_iload_n hC 1 rfl rfl dX4_connect_4 ?_
  refine V_iconst hC 1 dX4_connect_5 (by decide) ?_
  refine V_iload_n hC 2 rfl rfl dX4_connect_6 ?_
  refine V_iadd hC dX4_connect_7 ?_
  refine V_iast hC _ rfl 1 rfl hw.1 dX4_connect_8 (fun f1 ef1 => ?_)
  have hw := hw.2
  have hw := hw f1 ef1
  refine V_ws [(h0, .inr (3, [.ref h1, .int n_total])), (h1, .inl (E.2.1, 128, .inl f1))] rfl ?_
  refine V_aload_n hC 0 rfl rfl dX4_connect_9 ?_
  refine V_dup hC rfl dX4_connect_10 ?_
  refine V_get hC inX4 rfl 1 (by decide) wd_96 0 rfl rfl dX4_connect_11 ?_
  refine V_iconst hC 1 dX4_connect_14 (by decide) ?_
  refine V_iadd hC dX4_connect_15 ?_
  refine V_put hC [(h0, .inr (3, [.ref h1, .int (n_total + 1)])), (h1, .inl (E.2.1, 128, .inl f1))] inX4 tyX4_ok nmX4 rfl 1 (by decide) wd_96 rfl (ty := .int) (by decide +kernel) rfl rfl 0 rfl (Nat.le_of_ble_eq_true rfl) rfl dX4_connect_16 ?_
  exact V_vret hC hr ⟨f1, n_total + 1, rfl, rfl, hw⟩ dX4_connect_19
abbrev po_X4_disconnect (E : EN) (h0 : Nat) (h1 : Nat) (K : (Nat → Int32) → Int32 → Prop) : Option Value → va_W → Prop := fun v ws' => ∃ (a_codes : Nat → Int32) (n_total : Int32), v = none ∧ ws' = [(h0, .inr (3, [.ref h1, .int n_total])), (h1, .inl (E.2.1, 128, .inl a_codes))] ∧ K a_codes n_total
def wp_X4_disconnect (a_codes : Nat → Int32) (n_total : Int32) (p1 : Int32) (K : (Nat → Int32) → Int32 → Prop) : Prop := (vp_in p1 128 ∧ (∀ f1 : Nat → Int32, f1 = upd a_codes (Int32.toNatClampNeg p1) 0 → K f1 (n_total - 1)))
set_option maxRecDepth 100000 in
set_option maxHeartbeats 4000000 in
theorem ct_X4_disconnect (l : Launch) (E : EN) (h0 : Nat) (h1 : Nat) (a_codes : Nat → Int32) (n_total : Int32) (p1 : Int32) (K : (Nat → Int32) → Int32 → Prop) (hw : wp_X4_disconnect a_codes n_total p1 K) : Con l yX4_disconnect cX4_disconnect 2 (none) { frames := 0, cells := 0, slots := 0, locals := 0 } E [.ref h0, .int p1] [(h0, .inr (3, [.ref h1, .int n_total])), (h1, .inl (E.2.1, 128, .inl a_codes))] (po_X4_disconnect E h0 h1 K) := by
  refine Con.mk (by decide +kernel) (Nat.le_of_ble_eq_true rfl) ?_
  intro p e s m below meth c A hC hr hin
  have hC : Cx p s m _ meth c E A cX4_disconnect 2 "CookieServer$Ports" := hC
  rw [wp_X4_disconnect] at hw
  refine V_cast [(0, .ref h0), (1, .int p1)] [] [(h0, .inr (3, [.ref h1, .int n_total])), (h1, .inl (E.2.1, 128, .inl a_codes))] [0, 1] [0, 1] rfl rfl rfl rfl ?_
  refine V_aload_n hC 0 rfl rfl dX4_disconnect_0 ?_
  refine V_get hC inX4 rfl 0 (by decide) wd_95 0 rfl rfl dX4_disconnect_1 ?_
  refine V_iload_n hC 1 rfl rfl dX4_disconnect_4 ?_
  refine V_iconst hC 0 dX4_disconnect_5 (by decide) ?_
  refine V_iast hC _ rfl 1 rfl hw.1 dX4_disconnect_6 (fun f1 ef1 => ?_)
  have hw := hw.2
  have hw := hw f1 ef1
  refine V_ws [(h0, .inr (3, [.ref h1, .int n_total])), (h1, .inl (E.2.1, 128, .inl f1))] rfl ?_
  refine V_aload_n hC 0 rfl rfl dX4_disconnect_7 ?_
  refine V_dup hC rfl dX4_disconnect_8 ?_
  refine V_get hC inX4 rfl 1 (by decide) wd_96 0 rfl rfl dX4_disconnect_9 ?_
  refine V_iconst hC 1 dX4_disconnect_12 (by decide) ?_
  refine V_isub hC dX4_disconnect_13 ?_
  refine V_put hC [(h0, .inr (3, [.ref h1, .int (n_total - 1)])), (h1, .inl (E.2.1, 128, .inl f1))] inX4 tyX4_ok nmX4 rfl 1 (by decide) wd_96 rfl (ty := .int) (by decide +kernel) rfl rfl 0 rfl (Nat.le_of_ble_eq_true rfl) rfl dX4_disconnect_14 ?_
  exact V_vret hC hr ⟨f1, n_total - 1, rfl, rfl, hw⟩ dX4_disconnect_17
abbrev po_X4_mixInto (E : EN) (h0 : Nat) (h1 : Nat) (a_codes : Nat → Int32) (n_total : Int32) (K : Int64 → Prop) : Option Value → va_W → Prop := fun v ws' => ∃ (r0 : Int64), v = some (.long r0) ∧ ws' = [(h0, .inr (3, [.ref h1, .int n_total])), (h1, .inl (E.2.1, 128, .inl a_codes))] ∧ K r0
def wpl_X4_mixInto_13 (a_codes : Nat → Int32) (n_total : Int32) (K : Int64 → Prop) : Nat → Int64 → Int64 → Int32 → Prop
  | 0, _, _, _ => False
  | n9 + 1, x1, x3, x5 => ((128 ≤ x5 → K x3) ∧ (¬ (128 ≤ x5) → (vp_in x5 128 ∧ (wp_X8_mix x3 (Int32.toInt64 (a_codes (Int32.toNatClampNeg x5))) (fun (r3 : Int64) => wpl_X4_mixInto_13 a_codes n_total K n9 x1 r3 (x5 + 1))))))
set_option maxRecDepth 100000 in
set_option maxHeartbeats 4000000 in
theorem bl_X4_mixInto_13 {p : Program} {l : Launch} {e : Env} {s : State} {m : MethodId} {args : Array Value} {below : List Frame} {meth : Method} {c : Code} {E : EN} {A : Nat → Prop} (hC : Cx p s m args meth c E A cX4_mixInto 6 "CookieServer$Ports") (hr : meth.sig.returnType = some .long) (h0 : Nat) (h1 : Nat) (a_codes : Nat → Int32) (n_total : Int32) (K : Int64 → Prop) : ∀ (n8 : Nat) (x1 : Int64) (x3 : Int64) (x5 : Int32), wpl_X4_mixInto_13 a_codes n_total K n8 x1 x3 x5 → V p l e { frames := 1, cells := 0, slots := 0, locals := 23 } s m args below meth c E A 6 0 0 (MQ below (QP E (po_X4_mixInto E h0 h1 a_codes n_total K) A) args s 0 0 A) 13 [(0, .ref h0), (1, .long x1), (3, .long x3), (5, .int x5)] [] [(h0, .inr (3, [.ref h1, .int n_total])), (h1, .inl (E.2.1, 128, .inl a_codes))] := by
  intro n8
  induction n8 with
  | zero => intro x1 x3 x5 hw; rw [wpl_X4_mixInto_13] at hw; exact hw.elim
  | succ n9 ih =>
    intro x1 x3 x5 hw
    rw [wpl_X4_mixInto_13] at hw
    refine V_iload hC 3 rfl dX4_mixInto_13 ?_
    refine V_sipush hC 128 dX4_mixInto_15 (by decide) ?_
    refine V_icmp_ge hC 40 (by decide) dX4_mixInto_18 (fun c2 => ?_) (fun c2 => ?_)
    · have hw := hw.1 c2
      refine V_lload_n hC 2 rfl rfl dX4_mixInto_40 ?_
      exact V_lret hC hr ⟨x3, rfl, rfl, hw⟩ dX4_mixInto_41
    · have hw := hw.2 c2
      refine V_lload_n hC 2 rfl rfl dX4_mixInto_21 ?_
      refine V_aload_n hC 0 rfl rfl dX4_mixInto_22 ?_
      refine V_get hC inX4 rfl 0 (by decide) wd_95 0 rfl rfl dX4_mixInto_23 ?_
      refine V_iload hC 3 rfl dX4_mixInto_26 ?_
      refine V_iald hC _ rfl 1 rfl hw.1 dX4_mixInto_28 ?_
      have hw := hw.2
      refine V_i2l hC dX4_mixInto_29 ?_
      refine V_callSN hC (wr := [(h0, .inr (3, [.ref h1, .int n_total])), (h1, .inl (E.2.1, 128, .inl a_codes))]) 2 [.long x3, .long (Int32.toInt64 (a_codes (Int32.toNatClampNeg x5)))] [] (ct_X8_mix l E x3 (Int32.toInt64 (a_codes (Int32.toNatClampNeg x5))) _ hw) wd_577 wd_32 wd_594 wd_576 (by decide +kernel) rfl ⟨Nat.le_of_ble_eq_true rfl, Nat.le_of_ble_eq_true rfl⟩ [] [0, 1] rfl rfl rfl rfl (by decide) rfl (Nat.le_of_ble_eq_true rfl) ⟨Nat.le_of_ble_eq_true rfl, Nat.le_of_ble_eq_true rfl⟩ dX4_mixInto_30 (fun v ws' hp => ?_)
      obtain ⟨r3, rfl, rfl, hw⟩ := hp
      refine V_cast [(0, .ref h0), (1, .long x1), (3, .long x3), (5, .int x5)] [.long r3] [(h0, .inr (3, [.ref h1, .int n_total])), (h1, .inl (E.2.1, 128, .inl a_codes))] [0, 1, 2, 3] [0, 1] rfl rfl rfl rfl ?_
      refine V_lstore_n hC [(3, .long r3), (0, .ref h0), (1, .long x1), (5, .int x5)] rfl (by decide) rfl dX4_mixInto_33 ?_
      refine V_iinc hC (x5 + 1) 3 [(5, .int (x5 + 1)), (3, .long r3), (0, .ref h0), (1, .long x1)] rfl (congrArg (fun z => x5 + z) (by decide : Int32.ofInt (1) = (1 : Int32))) (by decide) rfl dX4_mixInto_34 ?_
      refine V_goto hC 13 (by decide) dX4_mixInto_37 ?_
      refine V_cast [(0, .ref h0), (1, .long x1), (3, .long r3), (5, .int (x5 + 1))] [] [(h0, .inr (3, [.ref h1, .int n_total])), (h1, .inl (E.2.1, 128, .inl a_codes))] [2, 3, 1, 0] [0, 1] rfl rfl rfl rfl ?_
      exact ih x1 r3 (x5 + 1) hw
def wp_X4_mixInto (a_codes : Nat → Int32) (n_total : Int32) (p1 : Int64) (K : Int64 → Prop) : Prop := (wp_X8_mix p1 (Int32.toInt64 n_total) (fun (r1 : Int64) => (∃ n8 : Nat, wpl_X4_mixInto_13 a_codes n_total K n8 p1 r1 0)))
set_option maxRecDepth 100000 in
set_option maxHeartbeats 4000000 in
theorem ct_X4_mixInto (l : Launch) (E : EN) (h0 : Nat) (h1 : Nat) (a_codes : Nat → Int32) (n_total : Int32) (p1 : Int64) (K : Int64 → Prop) (hw : wp_X4_mixInto a_codes n_total p1 K) : Con l yX4_mixInto cX4_mixInto 6 (some .long) { frames := 1, cells := 0, slots := 0, locals := 23 } E [.ref h0, .long p1] [(h0, .inr (3, [.ref h1, .int n_total])), (h1, .inl (E.2.1, 128, .inl a_codes))] (po_X4_mixInto E h0 h1 a_codes n_total K) := by
  refine Con.mk (by decide +kernel) (Nat.le_of_ble_eq_true rfl) ?_
  intro p e s m below meth c A hC hr hin
  have hC : Cx p s m _ meth c E A cX4_mixInto 6 "CookieServer$Ports" := hC
  rw [wp_X4_mixInto] at hw
  refine V_cast [(0, .ref h0), (1, .long p1)] [] [(h0, .inr (3, [.ref h1, .int n_total])), (h1, .inl (E.2.1, 128, .inl a_codes))] [0, 1] [0, 1] rfl rfl rfl rfl ?_
  refine V_lload_n hC 1 rfl rfl dX4_mixInto_0 ?_
  refine V_aload_n hC 0 rfl rfl dX4_mixInto_1 ?_
  refine V_get hC inX4 rfl 1 (by decide) wd_96 0 rfl rfl dX4_mixInto_2 ?_
  refine V_i2l hC dX4_mixInto_5 ?_
  refine V_callSN hC (wr := [(h0, .inr (3, [.ref h1, .int n_total])), (h1, .inl (E.2.1, 128, .inl a_codes))]) 2 [.long p1, .long (Int32.toInt64 n_total)] [] (ct_X8_mix l E p1 (Int32.toInt64 n_total) _ hw) wd_577 wd_32 wd_594 wd_576 (by decide +kernel) rfl ⟨Nat.le_of_ble_eq_true rfl, Nat.le_of_ble_eq_true rfl⟩ [] [0, 1] rfl rfl rfl rfl (by decide) rfl (Nat.le_of_ble_eq_true rfl) ⟨Nat.le_of_ble_eq_true rfl, Nat.le_of_ble_eq_true rfl⟩ dX4_mixInto_6 (fun v ws' hp => ?_)
  obtain ⟨r1, rfl, rfl, hw⟩ := hp
  refine V_cast [(0, .ref h0), (1, .long p1)] [.long r1] [(h0, .inr (3, [.ref h1, .int n_total])), (h1, .inl (E.2.1, 128, .inl a_codes))] [0, 1] [0, 1] rfl rfl rfl rfl ?_
  refine V_lstore_n hC [(3, .long r1), (0, .ref h0), (1, .long p1)] rfl (by decide) rfl dX4_mixInto_9 ?_
  refine V_iconst hC 0 dX4_mixInto_10 (by decide) ?_
  refine V_istore hC [(5, .int 0), (3, .long r1), (0, .ref h0), (1, .long p1)] (by decide) rfl dX4_mixInto_11 ?_
  refine V_cast [(0, .ref h0), (1, .long p1), (3, .long r1), (5, .int 0)] [] [(h0, .inr (3, [.ref h1, .int n_total])), (h1, .inl (E.2.1, 128, .inl a_codes))] [2, 3, 1, 0] [0, 1] rfl rfl rfl rfl ?_
  obtain ⟨n8, hw⟩ := hw
  exact bl_X4_mixInto_13 hC hr h0 h1 a_codes n_total K n8 p1 r1 0 hw
abbrev po_X7_copyFrom (E : EN) (h0 : Nat) (h1 : Nat) (h2 : Nat) (o0 : Nat) (o1 : Nat) (o2 : Nat) (a_places_o : Nat → Int32) (a_cookies_o : Nat → Int32) (n_count_o : Int32) (K : (Nat → Int32) → (Nat → Int32) → Int32 → Prop) : Option Value → va_W → Prop := fun v ws' => ∃ (a_places : Nat → Int32) (a_cookies : Nat → Int32) (n_count : Int32), v = none ∧ ws' = [(h0, .inr (6, [.ref h1, .ref h2, .int n_count])), (h1, .inl (E.2.1, 20, .inl a_places)), (h2, .inl (E.2.1, 20, .inl a_cookies)), (o0, .inr (6, [.ref o1, .ref o2, .int n_count_o])), (o1, .inl (E.2.1, 20, .inl a_places_o)), (o2, .inl (E.2.1, 20, .inl a_cookies_o))] ∧ K a_places a_cookies n_count
def wp_X7_copyFrom (a_places : Nat → Int32) (a_cookies : Nat → Int32) (n_count : Int32) (a_places_o : Nat → Int32) (a_cookies_o : Nat → Int32) (n_count_o : Int32) (K : (Nat → Int32) → (Nat → Int32) → Int32 → Prop) : Prop := (∀ f1 : Nat → Int32, f1 = va_cpy a_places_o a_places 0 0 20 → (∀ f2 : Nat → Int32, f2 = va_cpy a_cookies_o a_cookies 0 0 20 → K f1 f2 n_count_o))
set_option maxRecDepth 100000 in
set_option maxHeartbeats 4000000 in
theorem ct_X7_copyFrom (l : Launch) (E : EN) (h0 : Nat) (h1 : Nat) (h2 : Nat) (o0 : Nat) (o1 : Nat) (o2 : Nat) (a_places : Nat → Int32) (a_cookies : Nat → Int32) (n_count : Int32) (a_places_o : Nat → Int32) (a_cookies_o : Nat → Int32) (n_count_o : Int32) (K : (Nat → Int32) → (Nat → Int32) → Int32 → Prop) (hw : wp_X7_copyFrom a_places a_cookies n_count a_places_o a_cookies_o n_count_o K) : Con l yX7_copyFrom cX7_copyFrom 2 (none) { frames := 1, cells := 0, slots := 0, locals := 46 } E [.ref h0, .ref o0] [(h0, .inr (6, [.ref h1, .ref h2, .int n_count])), (h1, .inl (E.2.1, 20, .inl a_places)), (h2, .inl (E.2.1, 20, .inl a_cookies)), (o0, .inr (6, [.ref o1, .ref o2, .int n_count_o])), (o1, .inl (E.2.1, 20, .inl a_places_o)), (o2, .inl (E.2.1, 20, .inl a_cookies_o))] (po_X7_copyFrom E h0 h1 h2 o0 o1 o2 a_places_o a_cookies_o n_count_o K) := by
  refine Con.mk (by decide +kernel) (Nat.le_of_ble_eq_true rfl) ?_
  intro p e s m below meth c A hC hr hin
  have hC : Cx p s m _ meth c E A cX7_copyFrom 2 "CookieServer$UsedCookies" := hC
  rw [wp_X7_copyFrom] at hw
  refine V_cast [(0, .ref h0), (1, .ref o0)] [] [(h0, .inr (6, [.ref h1, .ref h2, .int n_count])), (h1, .inl (E.2.1, 20, .inl a_places)), (h2, .inl (E.2.1, 20, .inl a_cookies)), (o0, .inr (6, [.ref o1, .ref o2, .int n_count_o])), (o1, .inl (E.2.1, 20, .inl a_places_o)), (o2, .inl (E.2.1, 20, .inl a_cookies_o))] [0, 1] [0, 1, 2, 3, 4, 5] rfl rfl rfl rfl ?_
  refine V_aload_n hC 1 rfl rfl dX7_copyFrom_0 ?_
  refine V_get hC inX7 rfl 0 (by decide) wd_109 3 rfl rfl dX7_copyFrom_1 ?_
  refine V_iconst hC 0 dX7_copyFrom_4 (by decide) ?_
  refine V_aload_n hC 0 rfl rfl dX7_copyFrom_5 ?_
  refine V_get hC inX7 rfl 0 (by decide) wd_109 0 rfl rfl dX7_copyFrom_6 ?_
  refine V_iconst hC 0 dX7_copyFrom_9 (by decide) ?_
  refine V_bipush hC 20 dX7_copyFrom_10 (by decide) ?_
  refine V_copy hC 20 wd_259 wd_244 wd_243 wd_41 4 1 rfl rfl (by decide) (by decide) (by decide) (by decide) (Nat.le_of_ble_eq_true rfl) (Nat.le_of_ble_eq_true rfl) dX7_copyFrom_12 (fun f1 ef1 => ?_)
  have hw := hw f1 ef1
  refine V_ws [(h0, .inr (6, [.ref h1, .ref h2, .int n_count])), (h1, .inl (E.2.1, 20, .inl f1)), (h2, .inl (E.2.1, 20, .inl a_cookies)), (o0, .inr (6, [.ref o1, .ref o2, .int n_count_o])), (o1, .inl (E.2.1, 20, .inl a_places_o)), (o2, .inl (E.2.1, 20, .inl a_cookies_o))] rfl ?_
  refine V_aload_n hC 1 rfl rfl dX7_copyFrom_15 ?_
  refine V_get hC inX7 rfl 1 (by decide) wd_110 3 rfl rfl dX7_copyFrom_16 ?_
  refine V_iconst hC 0 dX7_copyFrom_19 (by decide) ?_
  refine V_aload_n hC 0 rfl rfl dX7_copyFrom_20 ?_
  refine V_get hC inX7 rfl 1 (by decide) wd_110 0 rfl rfl dX7_copyFrom_21 ?_
  refine V_iconst hC 0 dX7_copyFrom_24 (by decide) ?_
  refine V_bipush hC 20 dX7_copyFrom_25 (by decide) ?_
  refine V_copy hC 20 wd_259 wd_244 wd_243 wd_41 5 2 rfl rfl (by decide) (by decide) (by decide) (by decide) (Nat.le_of_ble_eq_true rfl) (Nat.le_of_ble_eq_true rfl) dX7_copyFrom_27 (fun f2 ef2 => ?_)
  have hw := hw f2 ef2
  refine V_ws [(h0, .inr (6, [.ref h1, .ref h2, .int n_count])), (h1, .inl (E.2.1, 20, .inl f1)), (h2, .inl (E.2.1, 20, .inl f2)), (o0, .inr (6, [.ref o1, .ref o2, .int n_count_o])), (o1, .inl (E.2.1, 20, .inl a_places_o)), (o2, .inl (E.2.1, 20, .inl a_cookies_o))] rfl ?_
  refine V_aload_n hC 0 rfl rfl dX7_copyFrom_30 ?_
  refine V_aload_n hC 1 rfl rfl dX7_copyFrom_31 ?_
  refine V_get hC inX7 rfl 2 (by decide) wd_111 3 rfl rfl dX7_copyFrom_32 ?_
  refine V_put hC [(h0, .inr (6, [.ref h1, .ref h2, .int n_count_o])), (h1, .inl (E.2.1, 20, .inl f1)), (h2, .inl (E.2.1, 20, .inl f2)), (o0, .inr (6, [.ref o1, .ref o2, .int n_count_o])), (o1, .inl (E.2.1, 20, .inl a_places_o)), (o2, .inl (E.2.1, 20, .inl a_cookies_o))] inX7 tyX7_ok nmX7 rfl 2 (by decide) wd_111 rfl (ty := .int) (by decide +kernel) rfl rfl 0 rfl (Nat.le_of_ble_eq_true rfl) rfl dX7_copyFrom_35 ?_
  exact V_vret hC hr ⟨f1, f2, n_count_o, rfl, rfl, hw⟩ dX7_copyFrom_38
abbrev po_X7_contains (E : EN) (h0 : Nat) (h1 : Nat) (h2 : Nat) (a_places : Nat → Int32) (a_cookies : Nat → Int32) (n_count : Int32) (K : Int32 → Prop) : Option Value → va_W → Prop := fun v ws' => ∃ (r0 : Int32), v = some (.int r0) ∧ ws' = [(h0, .inr (6, [.ref h1, .ref h2, .int n_count])), (h1, .inl (E.2.1, 20, .inl a_places)), (h2, .inl (E.2.1, 20, .inl a_cookies))] ∧ K r0
def wpl_X7_contains_2 (a_places : Nat → Int32) (a_cookies : Nat → Int32) (n_count : Int32) (K : Int32 → Prop) : Nat → Int32 → Int32 → Int32 → Prop
  | 0, _, _, _ => False
  | n9 + 1, x1, x2, x3 => ((n_count ≤ x3 → K 0) ∧ (¬ (n_count ≤ x3) → (vp_in x3 20 ∧ ((¬ (a_places (Int32.toNatClampNeg x3)) = x1 → wpl_X7_contains_2 a_places a_cookies n_count K n9 x1 x2 (x3 + 1)) ∧ ((a_places (Int32.toNatClampNeg x3)) = x1 → (vp_in x3 20 ∧ ((¬ (a_cookies (Int32.toNatClampNeg x3)) = x2 → wpl_X7_contains_2 a_places a_cookies n_count K n9 x1 x2 (x3 + 1)) ∧ ((a_cookies (Int32.toNatClampNeg x3)) = x2 → K 1))))))))
set_option maxRecDepth 100000 in
set_option maxHeartbeats 4000000 in
theorem bl_X7_contains_2 {p : Program} {l : Launch} {e : Env} {s : State} {m : MethodId} {args : Array Value} {below : List Frame} {meth : Method} {c : Code} {E : EN} {A : Nat → Prop} (hC : Cx p s m args meth c E A cX7_contains 4 "CookieServer$UsedCookies") (hr : meth.sig.returnType = some .boolean) (h0 : Nat) (h1 : Nat) (h2 : Nat) (a_places : Nat → Int32) (a_cookies : Nat → Int32) (n_count : Int32) (K : Int32 → Prop) : ∀ (n8 : Nat) (x1 : Int32) (x2 : Int32) (x3 : Int32), wpl_X7_contains_2 a_places a_cookies n_count K n8 x1 x2 x3 → V p l e { frames := 0, cells := 0, slots := 0, locals := 0 } s m args below meth c E A 4 0 0 (MQ below (QP E (po_X7_contains E h0 h1 h2 a_places a_cookies n_count K) A) args s 0 0 A) 2 [(0, .ref h0), (1, .int x1), (2, .int x2), (3, .int x3)] [] [(h0, .inr (6, [.ref h1, .ref h2, .int n_count])), (h1, .inl (E.2.1, 20, .inl a_places)), (h2, .inl (E.2.1, 20, .inl a_cookies))] := by
  intro n8
  induction n8 with
  | zero => intro x1 x2 x3 hw; rw [wpl_X7_contains_2] at hw; exact hw.elim
  | succ n9 ih =>
    intro x1 x2 x3 hw
    rw [wpl_X7_contains_2] at hw
    refine V_iload_n hC 3 rfl rfl dX7_contains_2 ?_
    refine V_aload_n hC 0 rfl rfl dX7_contains_3 ?_
    refine V_get hC inX7 rfl 2 (by decide) wd_111 0 rfl rfl dX7_contains_4 ?_
    refine V_icmp_ge hC 38 (by decide) dX7_contains_7 (fun c1 => ?_) (fun c1 => ?_)
    · have hw := hw.1 c1
      refine V_iconst hC 0 dX7_contains_38 (by decide) ?_
      exact V_zret hC hr rfl ⟨0, rfl, rfl, hw⟩ dX7_contains_39
    · have hw := hw.2 c1
      refine V_aload_n hC 0 rfl rfl dX7_contains_10 ?_
      refine V_get hC inX7 rfl 0 (by decide) wd_109 0 rfl rfl dX7_contains_11 ?_
      refine V_iload_n hC 3 rfl rfl dX7_contains_14 ?_
      refine V_iald hC _ rfl 1 rfl hw.1 dX7_contains_15 ?_
      have hw := hw.2
      refine V_iload_n hC 1 rfl rfl dX7_contains_16 ?_
      refine V_icmp_ne hC 32 (by decide) dX7_contains_17 (fun c2 => ?_) (fun c2 => ?_)
      · have hw := hw.1 c2
        refine V_iinc hC (x3 + 1) 3 [(3, .int (x3 + 1)), (0, .ref h0), (1, .int x1), (2, .int x2)] rfl (congrArg (fun z => x3 + z) (by decide : Int32.ofInt (1) = (1 : Int32))) (by decide) rfl dX7_contains_32 ?_
        refine V_goto hC 2 (by decide) dX7_contains_35 ?_
        refine V_cast [(0, .ref h0), (1, .int x1), (2, .int x2), (3, .int (x3 + 1))] [] [(h0, .inr (6, [.ref h1, .ref h2, .int n_count])), (h1, .inl (E.2.1, 20, .inl a_places)), (h2, .inl (E.2.1, 20, .inl a_cookies))] [1, 2, 3, 0] [0, 1, 2] rfl rfl rfl rfl ?_
        exact ih x1 x2 (x3 + 1) hw
      · have hw := hw.2 c2
        refine V_aload_n hC 0 rfl rfl dX7_contains_20 ?_
        refine V_get hC inX7 rfl 1 (by decide) wd_110 0 rfl rfl dX7_contains_21 ?_
        refine V_iload_n hC 3 rfl rfl dX7_contains_24 ?_
        refine V_iald hC _ rfl 2 rfl hw.1 dX7_contains_25 ?_
        have hw := hw.2
        refine V_iload_n hC 2 rfl rfl dX7_contains_26 ?_
        refine V_icmp_ne hC 32 (by decide) dX7_contains_27 (fun c3 => ?_) (fun c3 => ?_)
        · have hw := hw.1 c3
          refine V_iinc hC (x3 + 1) 3 [(3, .int (x3 + 1)), (0, .ref h0), (1, .int x1), (2, .int x2)] rfl (congrArg (fun z => x3 + z) (by decide : Int32.ofInt (1) = (1 : Int32))) (by decide) rfl dX7_contains_32 ?_
          refine V_goto hC 2 (by decide) dX7_contains_35 ?_
          refine V_cast [(0, .ref h0), (1, .int x1), (2, .int x2), (3, .int (x3 + 1))] [] [(h0, .inr (6, [.ref h1, .ref h2, .int n_count])), (h1, .inl (E.2.1, 20, .inl a_places)), (h2, .inl (E.2.1, 20, .inl a_cookies))] [1, 2, 3, 0] [0, 1, 2] rfl rfl rfl rfl ?_
          exact ih x1 x2 (x3 + 1) hw
        · have hw := hw.2 c3
          refine V_iconst hC 1 dX7_contains_30 (by decide) ?_
          exact V_zret hC hr rfl ⟨1, rfl, rfl, hw⟩ dX7_contains_31
def wp_X7_contains (a_places : Nat → Int32) (a_cookies : Nat → Int32) (n_count : Int32) (p1 : Int32) (p2 : Int32) (K : Int32 → Prop) : Prop := (∃ n8 : Nat, wpl_X7_contains_2 a_places a_cookies n_count K n8 p1 p2 0)
set_option maxRecDepth 100000 in
set_option maxHeartbeats 4000000 in
theorem ct_X7_contains (l : Launch) (E : EN) (h0 : Nat) (h1 : Nat) (h2 : Nat) (a_places : Nat → Int32) (a_cookies : Nat → Int32) (n_count : Int32) (p1 : Int32) (p2 : Int32) (K : Int32 → Prop) (hw : wp_X7_contains a_places a_cookies n_count p1 p2 K) : Con l yX7_contains cX7_contains 4 (some .boolean) { frames := 0, cells := 0, slots := 0, locals := 0 } E [.ref h0, .int p1, .int p2] [(h0, .inr (6, [.ref h1, .ref h2, .int n_count])), (h1, .inl (E.2.1, 20, .inl a_places)), (h2, .inl (E.2.1, 20, .inl a_cookies))] (po_X7_contains E h0 h1 h2 a_places a_cookies n_count K) := by
  refine Con.mk (by decide +kernel) (Nat.le_of_ble_eq_true rfl) ?_
  intro p e s m below meth c A hC hr hin
  have hC : Cx p s m _ meth c E A cX7_contains 4 "CookieServer$UsedCookies" := hC
  rw [wp_X7_contains] at hw
  refine V_cast [(0, .ref h0), (1, .int p1), (2, .int p2)] [] [(h0, .inr (6, [.ref h1, .ref h2, .int n_count])), (h1, .inl (E.2.1, 20, .inl a_places)), (h2, .inl (E.2.1, 20, .inl a_cookies))] [0, 1, 2] [0, 1, 2] rfl rfl rfl rfl ?_
  refine V_iconst hC 0 dX7_contains_0 (by decide) ?_
  refine V_istore_n hC [(3, .int 0), (0, .ref h0), (1, .int p1), (2, .int p2)] rfl (by decide) rfl dX7_contains_1 ?_
  refine V_cast [(0, .ref h0), (1, .int p1), (2, .int p2), (3, .int 0)] [] [(h0, .inr (6, [.ref h1, .ref h2, .int n_count])), (h1, .inl (E.2.1, 20, .inl a_places)), (h2, .inl (E.2.1, 20, .inl a_cookies))] [1, 2, 3, 0] [0, 1, 2] rfl rfl rfl rfl ?_
  obtain ⟨n8, hw⟩ := hw
  exact bl_X7_contains_2 hC hr h0 h1 h2 a_places a_cookies n_count K n8 p1 p2 0 hw
abbrev po_X7_forgetOldest (E : EN) (h0 : Nat) (h1 : Nat) (h2 : Nat) (K : (Nat → Int32) → (Nat → Int32) → Int32 → Prop) : Option Value → va_W → Prop := fun v ws' => ∃ (a_places : Nat → Int32) (a_cookies : Nat → Int32) (n_count : Int32), v = none ∧ ws' = [(h0, .inr (6, [.ref h1, .ref h2, .int n_count])), (h1, .inl (E.2.1, 20, .inl a_places)), (h2, .inl (E.2.1, 20, .inl a_cookies))] ∧ K a_places a_cookies n_count
def wpl_X7_forgetOldest_2 (K : (Nat → Int32) → (Nat → Int32) → Int32 → Prop) : Nat → Int32 → (Nat → Int32) → (Nat → Int32) → Int32 → Prop
  | 0, _, _, _, _ => False
  | n9 + 1, x1, a_places, a_cookies, n_count => ((20 ≤ x1 → K a_places a_cookies 19) ∧ (¬ (20 ≤ x1) → (vp_in x1 20 ∧ (vp_in (x1 - 1) 20 ∧ (∀ f2 : Nat → Int32, f2 = upd a_places (Int32.toNatClampNeg (x1 - 1)) (a_places (Int32.toNatClampNeg x1)) → (vp_in x1 20 ∧ (vp_in (x1 - 1) 20 ∧ (∀ f3 : Nat → Int32, f3 = upd a_cookies (Int32.toNatClampNeg (x1 - 1)) (a_cookies (Int32.toNatClampNeg x1)) → wpl_X7_forgetOldest_2 K n9 (x1 + 1) f2 f3 n_count))))))))
set_option maxRecDepth 100000 in
set_option maxHeartbeats 4000000 in
theorem bl_X7_forgetOldest_2 {p : Program} {l : Launch} {e : Env} {s : State} {m : MethodId} {args : Array Value} {below : List Frame} {meth : Method} {c : Code} {E : EN} {A : Nat → Prop} (hC : Cx p s m args meth c E A cX7_forgetOldest 2 "CookieServer$UsedCookies") (hr : meth.sig.returnType = none) (h0 : Nat) (h1 : Nat) (h2 : Nat) (K : (Nat → Int32) → (Nat → Int32) → Int32 → Prop) : ∀ (n8 : Nat) (x1 : Int32) (a_places : Nat → Int32) (a_cookies : Nat → Int32) (n_count : Int32), wpl_X7_forgetOldest_2 K n8 x1 a_places a_cookies n_count → V p l e { frames := 0, cells := 0, slots := 0, locals := 0 } s m args below meth c E A 2 0 0 (MQ below (QP E (po_X7_forgetOldest E h0 h1 h2 K) A) args s 0 0 A) 2 [(0, .ref h0), (1, .int x1)] [] [(h0, .inr (6, [.ref h1, .ref h2, .int n_count])), (h1, .inl (E.2.1, 20, .inl a_places)), (h2, .inl (E.2.1, 20, .inl a_cookies))] := by
  intro n8
  induction n8 with
  | zero => intro x1 a_places a_cookies n_count hw; rw [wpl_X7_forgetOldest_2] at hw; exact hw.elim
  | succ n9 ih =>
    intro x1 a_places a_cookies n_count hw
    rw [wpl_X7_forgetOldest_2] at hw
    refine V_iload_n hC 1 rfl rfl dX7_forgetOldest_2 ?_
    refine V_bipush hC 20 dX7_forgetOldest_3 (by decide) ?_
    refine V_icmp_ge hC 42 (by decide) dX7_forgetOldest_5 (fun c1 => ?_) (fun c1 => ?_)
    · have hw := hw.1 c1
      refine V_aload_n hC 0 rfl rfl dX7_forgetOldest_42 ?_
      refine V_bipush hC 19 dX7_forgetOldest_43 (by decide) ?_
      refine V_put hC [(h0, .inr (6, [.ref h1, .ref h2, .int 19])), (h1, .inl (E.2.1, 20, .inl a_places)), (h2, .inl (E.2.1, 20, .inl a_cookies))] inX7 tyX7_ok nmX7 rfl 2 (by decide) wd_111 rfl (ty := .int) (by decide +kernel) rfl rfl 0 rfl (Nat.le_of_ble_eq_true rfl) rfl dX7_forgetOldest_45 ?_
      exact V_vret hC hr ⟨a_places, a_cookies, 19, rfl, rfl, hw⟩ dX7_forgetOldest_48
    · have hw := hw.2 c1
      refine V_aload_n hC 0 rfl rfl dX7_forgetOldest_8 ?_
      refine V_get hC inX7 rfl 0 (by decide) wd_109 0 rfl rfl dX7_forgetOldest_9 ?_
      refine V_iload_n hC 1 rfl rfl dX7_forgetOldest_12 ?_
      refine V_iconst hC 1 dX7_forgetOldest_13 (by decide) ?_
      refine V_isub hC dX7_forgetOldest_14 ?_
      refine V_aload_n hC 0 rfl rfl dX7_forgetOldest_15 ?_
      refine V_get hC inX7 rfl 0 (by decide) wd_109 0 rfl rfl dX7_forgetOldest_16 ?_
      refine V_iload_n hC 1 rfl rfl dX7_forgetOldest_19 ?_
      refine V_iald hC _ rfl 1 rfl hw.1 dX7_forgetOldest_20 ?_
      have hw := hw.2
      refine V_iast hC _ rfl 1 rfl hw.1 dX7_forgetOldest_21 (fun f2 ef2 => ?_)
      have hw := hw.2
      have hw := hw f2 ef2
      refine V_ws [(h0, .inr (6, [.ref h1, .ref h2, .int n_count])), (h1, .inl (E.2.1, 20, .inl f2)), (h2, .inl (E.2.1, 20, .inl a_cookies))] rfl ?_
      refine V_aload_n hC 0 rfl rfl dX7_forgetOldest_22 ?_
      refine V_get hC inX7 rfl 1 (by decide) wd_110 0 rfl rfl dX7_forgetOldest_23 ?_
      refine V_iload_n hC 1 rfl rfl dX7_forgetOldest_26 ?_
      refine V_iconst hC 1 dX7_forgetOldest_27 (by decide) ?_
      refine V_isub hC dX7_forgetOldest_28 ?_
      refine V_aload_n hC 0 rfl rfl dX7_forgetOldest_29 ?_
      refine V_get hC inX7 rfl 1 (by decide) wd_110 0 rfl rfl dX7_forgetOldest_30 ?_
      refine V_iload_n hC 1 rfl rfl dX7_forgetOldest_33 ?_
      refine V_iald hC _ rfl 2 rfl hw.1 dX7_forgetOldest_34 ?_
      have hw := hw.2
      refine V_iast hC _ rfl 2 rfl hw.1 dX7_forgetOldest_35 (fun f3 ef3 => ?_)
      have hw := hw.2
      have hw := hw f3 ef3
      refine V_ws [(h0, .inr (6, [.ref h1, .ref h2, .int n_count])), (h1, .inl (E.2.1, 20, .inl f2)), (h2, .inl (E.2.1, 20, .inl f3))] rfl ?_
      refine V_iinc hC (x1 + 1) 1 [(1, .int (x1 + 1)), (0, .ref h0)] rfl (congrArg (fun z => x1 + z) (by decide : Int32.ofInt (1) = (1 : Int32))) (by decide) rfl dX7_forgetOldest_36 ?_
      refine V_goto hC 2 (by decide) dX7_forgetOldest_39 ?_
      refine V_cast [(0, .ref h0), (1, .int (x1 + 1))] [] [(h0, .inr (6, [.ref h1, .ref h2, .int n_count])), (h1, .inl (E.2.1, 20, .inl f2)), (h2, .inl (E.2.1, 20, .inl f3))] [1, 0] [0, 1, 2] rfl rfl rfl rfl ?_
      exact ih (x1 + 1) f2 f3 n_count hw
def wp_X7_forgetOldest (a_places : Nat → Int32) (a_cookies : Nat → Int32) (n_count : Int32) (K : (Nat → Int32) → (Nat → Int32) → Int32 → Prop) : Prop := (∃ n8 : Nat, wpl_X7_forgetOldest_2 K n8 1 a_places a_cookies n_count)
set_option maxRecDepth 100000 in
set_option maxHeartbeats 4000000 in
theorem ct_X7_forgetOldest (l : Launch) (E : EN) (h0 : Nat) (h1 : Nat) (h2 : Nat) (a_places : Nat → Int32) (a_cookies : Nat → Int32) (n_count : Int32) (K : (Nat → Int32) → (Nat → Int32) → Int32 → Prop) (hw : wp_X7_forgetOldest a_places a_cookies n_count K) : Con l yX7_forgetOldest cX7_forgetOldest 2 (none) { frames := 0, cells := 0, slots := 0, locals := 0 } E [.ref h0] [(h0, .inr (6, [.ref h1, .ref h2, .int n_count])), (h1, .inl (E.2.1, 20, .inl a_places)), (h2, .inl (E.2.1, 20, .inl a_cookies))] (po_X7_forgetOldest E h0 h1 h2 K) := by
  refine Con.mk (by decide +kernel) (Nat.le_of_ble_eq_true rfl) ?_
  intro p e s m below meth c A hC hr hin
  have hC : Cx p s m _ meth c E A cX7_forgetOldest 2 "CookieServer$UsedCookies" := hC
  rw [wp_X7_forgetOldest] at hw
  refine V_cast [(0, .ref h0)] [] [(h0, .inr (6, [.ref h1, .ref h2, .int n_count])), (h1, .inl (E.2.1, 20, .inl a_places)), (h2, .inl (E.2.1, 20, .inl a_cookies))] [0] [0, 1, 2] rfl rfl rfl rfl ?_
  refine V_iconst hC 1 dX7_forgetOldest_0 (by decide) ?_
  refine V_istore_n hC [(1, .int 1), (0, .ref h0)] rfl (by decide) rfl dX7_forgetOldest_1 ?_
  refine V_cast [(0, .ref h0), (1, .int 1)] [] [(h0, .inr (6, [.ref h1, .ref h2, .int n_count])), (h1, .inl (E.2.1, 20, .inl a_places)), (h2, .inl (E.2.1, 20, .inl a_cookies))] [1, 0] [0, 1, 2] rfl rfl rfl rfl ?_
  obtain ⟨n8, hw⟩ := hw
  exact bl_X7_forgetOldest_2 hC hr h0 h1 h2 K n8 1 a_places a_cookies n_count hw
abbrev po_X7_add (E : EN) (h0 : Nat) (h1 : Nat) (h2 : Nat) (K : (Nat → Int32) → (Nat → Int32) → Int32 → Prop) : Option Value → va_W → Prop := fun v ws' => ∃ (a_places : Nat → Int32) (a_cookies : Nat → Int32) (n_count : Int32), v = none ∧ ws' = [(h0, .inr (6, [.ref h1, .ref h2, .int n_count])), (h1, .inl (E.2.1, 20, .inl a_places)), (h2, .inl (E.2.1, 20, .inl a_cookies))] ∧ K a_places a_cookies n_count
def wp_X7_add (a_places : Nat → Int32) (a_cookies : Nat → Int32) (n_count : Int32) (p1 : Int32) (p2 : Int32) (K : (Nat → Int32) → (Nat → Int32) → Int32 → Prop) : Prop := ((n_count < 20 → (vp_in n_count 20 ∧ (∀ f2 : Nat → Int32, f2 = upd a_places (Int32.toNatClampNeg n_count) p1 → (vp_in n_count 20 ∧ (∀ f3 : Nat → Int32, f3 = upd a_cookies (Int32.toNatClampNeg n_count) p2 → K f2 f3 (n_count + 1)))))) ∧ (¬ (n_count < 20) → (wp_X7_forgetOldest a_places a_cookies n_count (fun (g4 : Nat → Int32) (g5 : Nat → Int32) (s6 : Int32) => (vp_in s6 20 ∧ (∀ f7 : Nat → Int32, f7 = upd g4 (Int32.toNatClampNeg s6) p1 → (vp_in s6 20 ∧ (∀ f8 : Nat → Int32, f8 = upd g5 (Int32.toNatClampNeg s6) p2 → K f7 f8 (s6 + 1)))))))))
set_option maxRecDepth 100000 in
set_option maxHeartbeats 4000000 in
theorem ct_X7_add (l : Launch) (E : EN) (h0 : Nat) (h1 : Nat) (h2 : Nat) (a_places : Nat → Int32) (a_cookies : Nat → Int32) (n_count : Int32) (p1 : Int32) (p2 : Int32) (K : (Nat → Int32) → (Nat → Int32) → Int32 → Prop) (hw : wp_X7_add a_places a_cookies n_count p1 p2 K) : Con l yX7_add cX7_add 3 (none) { frames := 1, cells := 0, slots := 0, locals := 21 } E [.ref h0, .int p1, .int p2] [(h0, .inr (6, [.ref h1, .ref h2, .int n_count])), (h1, .inl (E.2.1, 20, .inl a_places)), (h2, .inl (E.2.1, 20, .inl a_cookies))] (po_X7_add E h0 h1 h2 K) := by
  refine Con.mk (by decide +kernel) (Nat.le_of_ble_eq_true rfl) ?_
  intro p e s m below meth c A hC hr hin
  have hC : Cx p s m _ meth c E A cX7_add 3 "CookieServer$UsedCookies" := hC
  rw [wp_X7_add] at hw
  refine V_cast [(0, .ref h0), (1, .int p1), (2, .int p2)] [] [(h0, .inr (6, [.ref h1, .ref h2, .int n_count])), (h1, .inl (E.2.1, 20, .inl a_places)), (h2, .inl (E.2.1, 20, .inl a_cookies))] [0, 1, 2] [0, 1, 2] rfl rfl rfl rfl ?_
  refine V_aload_n hC 0 rfl rfl dX7_add_0 ?_
  refine V_get hC inX7 rfl 2 (by decide) wd_111 0 rfl rfl dX7_add_1 ?_
  refine V_bipush hC 20 dX7_add_4 (by decide) ?_
  refine V_icmp_lt hC 13 (by decide) dX7_add_6 (fun c1 => ?_) (fun c1 => ?_)
  · have hw := hw.1 c1
    refine V_aload_n hC 0 rfl rfl dX7_add_13 ?_
    refine V_get hC inX7 rfl 0 (by decide) wd_109 0 rfl rfl dX7_add_14 ?_
    refine V_aload_n hC 0 rfl rfl dX7_add_17 ?_
    refine V_get hC inX7 rfl 2 (by decide) wd_111 0 rfl rfl dX7_add_18 ?_
    refine V_iload_n hC 1 rfl rfl dX7_add_21 ?_
    refine V_iast hC _ rfl 1 rfl hw.1 dX7_add_22 (fun f2 ef2 => ?_)
    have hw := hw.2
    have hw := hw f2 ef2
    refine V_ws [(h0, .inr (6, [.ref h1, .ref h2, .int n_count])), (h1, .inl (E.2.1, 20, .inl f2)), (h2, .inl (E.2.1, 20, .inl a_cookies))] rfl ?_
    refine V_aload_n hC 0 rfl rfl dX7_add_23 ?_
    refine V_get hC inX7 rfl 1 (by decide) wd_110 0 rfl rfl dX7_add_24 ?_
    refine V_aload_n hC 0 rfl rfl dX7_add_27 ?_
    refine V_get hC inX7 rfl 2 (by decide) wd_111 0 rfl rfl dX7_add_28 ?_
    refine V_iload_n hC 2 rfl rfl dX7_add_31 ?_
    refine V_iast hC _ rfl 2 rfl hw.1 dX7_add_32 (fun f3 ef3 => ?_)
    have hw := hw.2
    have hw := hw f3 ef3
    refine V_ws [(h0, .inr (6, [.ref h1, .ref h2, .int n_count])), (h1, .inl (E.2.1, 20, .inl f2)), (h2, .inl (E.2.1, 20, .inl f3))] rfl ?_
    refine V_aload_n hC 0 rfl rfl dX7_add_33 ?_
    refine V_dup hC rfl dX7_add_34 ?_
    refine V_get hC inX7 rfl 2 (by decide) wd_111 0 rfl rfl dX7_add_35 ?_
    refine V_iconst hC 1 dX7_add_38 (by decide) ?_
    refine V_iadd hC dX7_add_39 ?_
    refine V_put hC [(h0, .inr (6, [.ref h1, .ref h2, .int (n_count + 1)])), (h1, .inl (E.2.1, 20, .inl f2)), (h2, .inl (E.2.1, 20, .inl f3))] inX7 tyX7_ok nmX7 rfl 2 (by decide) wd_111 rfl (ty := .int) (by decide +kernel) rfl rfl 0 rfl (Nat.le_of_ble_eq_true rfl) rfl dX7_add_40 ?_
    exact V_vret hC hr ⟨f2, f3, n_count + 1, rfl, rfl, hw⟩ dX7_add_43
  · have hw := hw.2 c1
    refine V_aload_n hC 0 rfl rfl dX7_add_9 ?_
    refine V_callV hC (wr := []) 0 [] [] (ct_X7_forgetOldest l E h0 h1 h2 a_places a_cookies n_count _ hw) wd_426 wd_37 wd_423 wd_425 wd_7 (by decide +kernel) rfl ⟨Nat.le_of_ble_eq_true rfl, Nat.le_of_ble_eq_true rfl⟩ [0, 1, 2] [] rfl rfl rfl rfl (by decide) rfl rfl rfl (Nat.le_of_ble_eq_true rfl) ⟨Nat.le_of_ble_eq_true rfl, Nat.le_of_ble_eq_true rfl⟩ dX7_add_10 (fun v ws' hp => ?_)
    obtain ⟨g4, g5, s6, rfl, rfl, hw⟩ := hp
    refine V_cast [(0, .ref h0), (1, .int p1), (2, .int p2)] [] [(h0, .inr (6, [.ref h1, .ref h2, .int s6])), (h1, .inl (E.2.1, 20, .inl g4)), (h2, .inl (E.2.1, 20, .inl g5))] [0, 1, 2] [0, 1, 2] rfl rfl rfl rfl ?_
    refine V_aload_n hC 0 rfl rfl dX7_add_13 ?_
    refine V_get hC inX7 rfl 0 (by decide) wd_109 0 rfl rfl dX7_add_14 ?_
    refine V_aload_n hC 0 rfl rfl dX7_add_17 ?_
    refine V_get hC inX7 rfl 2 (by decide) wd_111 0 rfl rfl dX7_add_18 ?_
    refine V_iload_n hC 1 rfl rfl dX7_add_21 ?_
    refine V_iast hC _ rfl 1 rfl hw.1 dX7_add_22 (fun f7 ef7 => ?_)
    have hw := hw.2
    have hw := hw f7 ef7
    refine V_ws [(h0, .inr (6, [.ref h1, .ref h2, .int s6])), (h1, .inl (E.2.1, 20, .inl f7)), (h2, .inl (E.2.1, 20, .inl g5))] rfl ?_
    refine V_aload_n hC 0 rfl rfl dX7_add_23 ?_
    refine V_get hC inX7 rfl 1 (by decide) wd_110 0 rfl rfl dX7_add_24 ?_
    refine V_aload_n hC 0 rfl rfl dX7_add_27 ?_
    refine V_get hC inX7 rfl 2 (by decide) wd_111 0 rfl rfl dX7_add_28 ?_
    refine V_iload_n hC 2 rfl rfl dX7_add_31 ?_
    refine V_iast hC _ rfl 2 rfl hw.1 dX7_add_32 (fun f8 ef8 => ?_)
    have hw := hw.2
    have hw := hw f8 ef8
    refine V_ws [(h0, .inr (6, [.ref h1, .ref h2, .int s6])), (h1, .inl (E.2.1, 20, .inl f7)), (h2, .inl (E.2.1, 20, .inl f8))] rfl ?_
    refine V_aload_n hC 0 rfl rfl dX7_add_33 ?_
    refine V_dup hC rfl dX7_add_34 ?_
    refine V_get hC inX7 rfl 2 (by decide) wd_111 0 rfl rfl dX7_add_35 ?_
    refine V_iconst hC 1 dX7_add_38 (by decide) ?_
    refine V_iadd hC dX7_add_39 ?_
    refine V_put hC [(h0, .inr (6, [.ref h1, .ref h2, .int (s6 + 1)])), (h1, .inl (E.2.1, 20, .inl f7)), (h2, .inl (E.2.1, 20, .inl f8))] inX7 tyX7_ok nmX7 rfl 2 (by decide) wd_111 rfl (ty := .int) (by decide +kernel) rfl rfl 0 rfl (Nat.le_of_ble_eq_true rfl) rfl dX7_add_40 ?_
    exact V_vret hC hr ⟨f7, f8, s6 + 1, rfl, rfl, hw⟩ dX7_add_43
abbrev po_X7_forgetStale (E : EN) (h0 : Nat) (h1 : Nat) (h2 : Nat) (K : (Nat → Int32) → (Nat → Int32) → Int32 → Prop) : Option Value → va_W → Prop := fun v ws' => ∃ (a_places : Nat → Int32) (a_cookies : Nat → Int32) (n_count : Int32), v = none ∧ ws' = [(h0, .inr (6, [.ref h1, .ref h2, .int n_count])), (h1, .inl (E.2.1, 20, .inl a_places)), (h2, .inl (E.2.1, 20, .inl a_cookies))] ∧ K a_places a_cookies n_count
def wpl_X7_forgetStale_4 (K : (Nat → Int32) → (Nat → Int32) → Int32 → Prop) : Nat → Int32 → Int32 → Int32 → (Nat → Int32) → (Nat → Int32) → Int32 → Prop
  | 0, _, _, _, _, _, _ => False
  | n9 + 1, x1, x2, x3, a_places, a_cookies, n_count => ((n_count ≤ x3 → K a_places a_cookies x2) ∧ (¬ (n_count ≤ x3) → (vp_in x3 20 ∧ (wp_X0_age (a_cookies (Int32.toNatClampNeg x3)) x1 (fun (r2 : Int32) => ((1 < r2 → wpl_X7_forgetStale_4 K n9 x1 x2 (x3 + 1) a_places a_cookies n_count) ∧ (¬ (1 < r2) → (vp_in x3 20 ∧ (vp_in x2 20 ∧ (∀ f4 : Nat → Int32, f4 = upd a_places (Int32.toNatClampNeg x2) (a_places (Int32.toNatClampNeg x3)) → (vp_in x3 20 ∧ (vp_in x2 20 ∧ (∀ f5 : Nat → Int32, f5 = upd a_cookies (Int32.toNatClampNeg x2) (a_cookies (Int32.toNatClampNeg x3)) → wpl_X7_forgetStale_4 K n9 x1 (x2 + 1) (x3 + 1) f4 f5 n_count)))))))))))))
set_option maxRecDepth 100000 in
set_option maxHeartbeats 4000000 in
theorem bl_X7_forgetStale_4 {p : Program} {l : Launch} {e : Env} {s : State} {m : MethodId} {args : Array Value} {below : List Frame} {meth : Method} {c : Code} {E : EN} {A : Nat → Prop} (hC : Cx p s m args meth c E A cX7_forgetStale 4 "CookieServer$UsedCookies") (hr : meth.sig.returnType = none) (h0 : Nat) (h1 : Nat) (h2 : Nat) (K : (Nat → Int32) → (Nat → Int32) → Int32 → Prop) : ∀ (n8 : Nat) (x1 : Int32) (x2 : Int32) (x3 : Int32) (a_places : Nat → Int32) (a_cookies : Nat → Int32) (n_count : Int32), wpl_X7_forgetStale_4 K n8 x1 x2 x3 a_places a_cookies n_count → V p l e { frames := 2, cells := 0, slots := 0, locals := 43 } s m args below meth c E A 4 0 0 (MQ below (QP E (po_X7_forgetStale E h0 h1 h2 K) A) args s 0 0 A) 4 [(0, .ref h0), (1, .int x1), (2, .int x2), (3, .int x3)] [] [(h0, .inr (6, [.ref h1, .ref h2, .int n_count])), (h1, .inl (E.2.1, 20, .inl a_places)), (h2, .inl (E.2.1, 20, .inl a_cookies))] := by
  intro n8
  induction n8 with
  | zero => intro x1 x2 x3 a_places a_cookies n_count hw; rw [wpl_X7_forgetStale_4] at hw; exact hw.elim
  | succ n9 ih =>
    intro x1 x2 x3 a_places a_cookies n_count hw
    rw [wpl_X7_forgetStale_4] at hw
    refine V_iload_n hC 3 rfl rfl dX7_forgetStale_4 ?_
    refine V_aload_n hC 0 rfl rfl dX7_forgetStale_5 ?_
    refine V_get hC inX7 rfl 2 (by decide) wd_111 0 rfl rfl dX7_forgetStale_6 ?_
    refine V_icmp_ge hC 59 (by decide) dX7_forgetStale_9 (fun c1 => ?_) (fun c1 => ?_)
    · have hw := hw.1 c1
      refine V_aload_n hC 0 rfl rfl dX7_forgetStale_59 ?_
      refine V_iload_n hC 2 rfl rfl dX7_forgetStale_60 ?_
      refine V_put hC [(h0, .inr (6, [.ref h1, .ref h2, .int x2])), (h1, .inl (E.2.1, 20, .inl a_places)), (h2, .inl (E.2.1, 20, .inl a_cookies))] inX7 tyX7_ok nmX7 rfl 2 (by decide) wd_111 rfl (ty := .int) (by decide +kernel) rfl rfl 0 rfl (Nat.le_of_ble_eq_true rfl) rfl dX7_forgetStale_61 ?_
      exact V_vret hC hr ⟨a_places, a_cookies, x2, rfl, rfl, hw⟩ dX7_forgetStale_64
    · have hw := hw.2 c1
      refine V_aload_n hC 0 rfl rfl dX7_forgetStale_12 ?_
      refine V_get hC inX7 rfl 1 (by decide) wd_110 0 rfl rfl dX7_forgetStale_13 ?_
      refine V_iload_n hC 3 rfl rfl dX7_forgetStale_16 ?_
      refine V_iald hC _ rfl 2 rfl hw.1 dX7_forgetStale_17 ?_
      have hw := hw.2
      refine V_iload_n hC 1 rfl rfl dX7_forgetStale_18 ?_
      refine V_callS hC (wr := [(h0, .inr (6, [.ref h1, .ref h2, .int n_count])), (h1, .inl (E.2.1, 20, .inl a_places)), (h2, .inl (E.2.1, 20, .inl a_cookies))]) 2 [.int (a_cookies (Int32.toNatClampNeg x3)), .int x1] [] (ct_X0_age l E (a_cookies (Int32.toNatClampNeg x3)) x1 _ hw) wd_297 wd_43 wd_295 wd_296 (by decide +kernel) rfl ⟨Nat.le_of_ble_eq_true rfl, Nat.le_of_ble_eq_true rfl⟩ [] [0, 1, 2] rfl rfl rfl rfl (by decide) rfl (Nat.le_of_ble_eq_true rfl) ⟨Nat.le_of_ble_eq_true rfl, Nat.le_of_ble_eq_true rfl⟩ dX7_forgetStale_19 (fun v ws' hp => ?_)
      obtain ⟨r2, rfl, rfl, hw⟩ := hp
      refine V_cast [(0, .ref h0), (1, .int x1), (2, .int x2), (3, .int x3)] [.int r2] [(h0, .inr (6, [.ref h1, .ref h2, .int n_count])), (h1, .inl (E.2.1, 20, .inl a_places)), (h2, .inl (E.2.1, 20, .inl a_cookies))] [0, 1, 2, 3] [0, 1, 2] rfl rfl rfl rfl ?_
      refine V_iconst hC 1 dX7_forgetStale_22 (by decide) ?_
      refine V_icmp_gt hC 53 (by decide) dX7_forgetStale_23 (fun c3 => ?_) (fun c3 => ?_)
      · have hw := hw.1 c3
        refine V_iinc hC (x3 + 1) 3 [(3, .int (x3 + 1)), (0, .ref h0), (1, .int x1), (2, .int x2)] rfl (congrArg (fun z => x3 + z) (by decide : Int32.ofInt (1) = (1 : Int32))) (by decide) rfl dX7_forgetStale_53 ?_
        refine V_goto hC 4 (by decide) dX7_forgetStale_56 ?_
        refine V_cast [(0, .ref h0), (1, .int x1), (2, .int x2), (3, .int (x3 + 1))] [] [(h0, .inr (6, [.ref h1, .ref h2, .int n_count])), (h1, .inl (E.2.1, 20, .inl a_places)), (h2, .inl (E.2.1, 20, .inl a_cookies))] [1, 2, 3, 0] [0, 1, 2] rfl rfl rfl rfl ?_
        exact ih x1 x2 (x3 + 1) a_places a_cookies n_count hw
      · have hw := hw.2 c3
        refine V_aload_n hC 0 rfl rfl dX7_forgetStale_26 ?_
        refine V_get hC inX7 rfl 0 (by decide) wd_109 0 rfl rfl dX7_forgetStale_27 ?_
        refine V_iload_n hC 2 rfl rfl dX7_forgetStale_30 ?_
        refine V_aload_n hC 0 rfl rfl dX7_forgetStale_31 ?_
        refine V_get hC inX7 rfl 0 (by decide) wd_109 0 rfl rfl dX7_forgetStale_32 ?_
        refine V_iload_n hC 3 rfl rfl dX7_forgetStale_35 ?_
        refine V_iald hC _ rfl 1 rfl hw.1 dX7_forgetStale_36 ?_
        have hw := hw.2
        refine V_iast hC _ rfl 1 rfl hw.1 dX7_forgetStale_37 (fun f4 ef4 => ?_)
        have hw := hw.2
        have hw := hw f4 ef4
        refine V_ws [(h0, .inr (6, [.ref h1, .ref h2, .int n_count])), (h1, .inl (E.2.1, 20, .inl f4)), (h2, .inl (E.2.1, 20, .inl a_cookies))] rfl ?_
        refine V_aload_n hC 0 rfl rfl dX7_forgetStale_38 ?_
        refine V_get hC inX7 rfl 1 (by decide) wd_110 0 rfl rfl dX7_forgetStale_39 ?_
        refine V_iload_n hC 2 rfl rfl dX7_forgetStale_42 ?_
        refine V_aload_n hC 0 rfl rfl dX7_forgetStale_43 ?_
        refine V_get hC inX7 rfl 1 (by decide) wd_110 0 rfl rfl dX7_forgetStale_44 ?_
        refine V_iload_n hC 3 rfl rfl dX7_forgetStale_47 ?_
        refine V_iald hC _ rfl 2 rfl hw.1 dX7_forgetStale_48 ?_
        have hw := hw.2
        refine V_iast hC _ rfl 2 rfl hw.1 dX7_forgetStale_49 (fun f5 ef5 => ?_)
        have hw := hw.2
        have hw := hw f5 ef5
        refine V_ws [(h0, .inr (6, [.ref h1, .ref h2, .int n_count])), (h1, .inl (E.2.1, 20, .inl f4)), (h2, .inl (E.2.1, 20, .inl f5))] rfl ?_
        refine V_iinc hC (x2 + 1) 2 [(2, .int (x2 + 1)), (0, .ref h0), (1, .int x1), (3, .int x3)] rfl (congrArg (fun z => x2 + z) (by decide : Int32.ofInt (1) = (1 : Int32))) (by decide) rfl dX7_forgetStale_50 ?_
        refine V_iinc hC (x3 + 1) 3 [(3, .int (x3 + 1)), (2, .int (x2 + 1)), (0, .ref h0), (1, .int x1)] rfl (congrArg (fun z => x3 + z) (by decide : Int32.ofInt (1) = (1 : Int32))) (by decide) rfl dX7_forgetStale_53 ?_
        refine V_goto hC 4 (by decide) dX7_forgetStale_56 ?_
        refine V_cast [(0, .ref h0), (1, .int x1), (2, .int (x2 + 1)), (3, .int (x3 + 1))] [] [(h0, .inr (6, [.ref h1, .ref h2, .int n_count])), (h1, .inl (E.2.1, 20, .inl f4)), (h2, .inl (E.2.1, 20, .inl f5))] [2, 3, 1, 0] [0, 1, 2] rfl rfl rfl rfl ?_
        exact ih x1 (x2 + 1) (x3 + 1) f4 f5 n_count hw
def wp_X7_forgetStale (a_places : Nat → Int32) (a_cookies : Nat → Int32) (n_count : Int32) (p1 : Int32) (K : (Nat → Int32) → (Nat → Int32) → Int32 → Prop) : Prop := (∃ n8 : Nat, wpl_X7_forgetStale_4 K n8 p1 0 0 a_places a_cookies n_count)
set_option maxRecDepth 100000 in
set_option maxHeartbeats 4000000 in
theorem ct_X7_forgetStale (l : Launch) (E : EN) (h0 : Nat) (h1 : Nat) (h2 : Nat) (a_places : Nat → Int32) (a_cookies : Nat → Int32) (n_count : Int32) (p1 : Int32) (K : (Nat → Int32) → (Nat → Int32) → Int32 → Prop) (hw : wp_X7_forgetStale a_places a_cookies n_count p1 K) : Con l yX7_forgetStale cX7_forgetStale 4 (none) { frames := 2, cells := 0, slots := 0, locals := 43 } E [.ref h0, .int p1] [(h0, .inr (6, [.ref h1, .ref h2, .int n_count])), (h1, .inl (E.2.1, 20, .inl a_places)), (h2, .inl (E.2.1, 20, .inl a_cookies))] (po_X7_forgetStale E h0 h1 h2 K) := by
  refine Con.mk (by decide +kernel) (Nat.le_of_ble_eq_true rfl) ?_
  intro p e s m below meth c A hC hr hin
  have hC : Cx p s m _ meth c E A cX7_forgetStale 4 "CookieServer$UsedCookies" := hC
  rw [wp_X7_forgetStale] at hw
  refine V_cast [(0, .ref h0), (1, .int p1)] [] [(h0, .inr (6, [.ref h1, .ref h2, .int n_count])), (h1, .inl (E.2.1, 20, .inl a_places)), (h2, .inl (E.2.1, 20, .inl a_cookies))] [0, 1] [0, 1, 2] rfl rfl rfl rfl ?_
  refine V_iconst hC 0 dX7_forgetStale_0 (by decide) ?_
  refine V_istore_n hC [(2, .int 0), (0, .ref h0), (1, .int p1)] rfl (by decide) rfl dX7_forgetStale_1 ?_
  refine V_iconst hC 0 dX7_forgetStale_2 (by decide) ?_
  refine V_istore_n hC [(3, .int 0), (2, .int 0), (0, .ref h0), (1, .int p1)] rfl (by decide) rfl dX7_forgetStale_3 ?_
  refine V_cast [(0, .ref h0), (1, .int p1), (2, .int 0), (3, .int 0)] [] [(h0, .inr (6, [.ref h1, .ref h2, .int n_count])), (h1, .inl (E.2.1, 20, .inl a_places)), (h2, .inl (E.2.1, 20, .inl a_cookies))] [2, 3, 1, 0] [0, 1, 2] rfl rfl rfl rfl ?_
  obtain ⟨n8, hw⟩ := hw
  exact bl_X7_forgetStale_4 hC hr h0 h1 h2 K n8 p1 0 0 a_places a_cookies n_count hw
abbrev po_X7_mixInto (E : EN) (h0 : Nat) (h1 : Nat) (h2 : Nat) (a_places : Nat → Int32) (a_cookies : Nat → Int32) (n_count : Int32) (K : Int64 → Prop) : Option Value → va_W → Prop := fun v ws' => ∃ (r0 : Int64), v = some (.long r0) ∧ ws' = [(h0, .inr (6, [.ref h1, .ref h2, .int n_count])), (h1, .inl (E.2.1, 20, .inl a_places)), (h2, .inl (E.2.1, 20, .inl a_cookies))] ∧ K r0
def wpl_X7_mixInto_13 (a_places : Nat → Int32) (a_cookies : Nat → Int32) (n_count : Int32) (K : Int64 → Prop) : Nat → Int64 → Int64 → Int32 → Prop
  | 0, _, _, _ => False
  | n9 + 1, x1, x3, x5 => ((n_count ≤ x5 → K x3) ∧ (¬ (n_count ≤ x5) → (vp_in x5 20 ∧ (wp_X8_mix x3 (Int32.toInt64 (a_cookies (Int32.toNatClampNeg x5))) (fun (r3 : Int64) => wpl_X7_mixInto_13 a_places a_cookies n_count K n9 x1 r3 (x5 + 1))))))
set_option maxRecDepth 100000 in
set_option maxHeartbeats 4000000 in
theorem bl_X7_mixInto_13 {p : Program} {l : Launch} {e : Env} {s : State} {m : MethodId} {args : Array Value} {below : List Frame} {meth : Method} {c : Code} {E : EN} {A : Nat → Prop} (hC : Cx p s m args meth c E A cX7_mixInto 6 "CookieServer$UsedCookies") (hr : meth.sig.returnType = some .long) (h0 : Nat) (h1 : Nat) (h2 : Nat) (a_places : Nat → Int32) (a_cookies : Nat → Int32) (n_count : Int32) (K : Int64 → Prop) : ∀ (n8 : Nat) (x1 : Int64) (x3 : Int64) (x5 : Int32), wpl_X7_mixInto_13 a_places a_cookies n_count K n8 x1 x3 x5 → V p l e { frames := 1, cells := 0, slots := 0, locals := 23 } s m args below meth c E A 6 0 0 (MQ below (QP E (po_X7_mixInto E h0 h1 h2 a_places a_cookies n_count K) A) args s 0 0 A) 13 [(0, .ref h0), (1, .long x1), (3, .long x3), (5, .int x5)] [] [(h0, .inr (6, [.ref h1, .ref h2, .int n_count])), (h1, .inl (E.2.1, 20, .inl a_places)), (h2, .inl (E.2.1, 20, .inl a_cookies))] := by
  intro n8
  induction n8 with
  | zero => intro x1 x3 x5 hw; rw [wpl_X7_mixInto_13] at hw; exact hw.elim
  | succ n9 ih =>
    intro x1 x3 x5 hw
    rw [wpl_X7_mixInto_13] at hw
    refine V_iload hC 3 rfl dX7_mixInto_13 ?_
    refine V_aload_n hC 0 rfl rfl dX7_mixInto_15 ?_
    refine V_get hC inX7 rfl 2 (by decide) wd_111 0 rfl rfl dX7_mixInto_16 ?_
    refine V_icmp_ge hC 41 (by decide) dX7_mixInto_19 (fun c2 => ?_) (fun c2 => ?_)
    · have hw := hw.1 c2
      refine V_lload_n hC 2 rfl rfl dX7_mixInto_41 ?_
      exact V_lret hC hr ⟨x3, rfl, rfl, hw⟩ dX7_mixInto_42
    · have hw := hw.2 c2
      refine V_lload_n hC 2 rfl rfl dX7_mixInto_22 ?_
      refine V_aload_n hC 0 rfl rfl dX7_mixInto_23 ?_
      refine V_get hC inX7 rfl 1 (by decide) wd_110 0 rfl rfl dX7_mixInto_24 ?_
      refine V_iload hC 3 rfl dX7_mixInto_27 ?_
      refine V_iald hC _ rfl 2 rfl hw.1 dX7_mixInto_29 ?_
      have hw := hw.2
      refine V_i2l hC dX7_mixInto_30 ?_
      refine V_callSN hC (wr := [(h0, .inr (6, [.ref h1, .ref h2, .int n_count])), (h1, .inl (E.2.1, 20, .inl a_places)), (h2, .inl (E.2.1, 20, .inl a_cookies))]) 2 [.long x3, .long (Int32.toInt64 (a_cookies (Int32.toNatClampNeg x5)))] [] (ct_X8_mix l E x3 (Int32.toInt64 (a_cookies (Int32.toNatClampNeg x5))) _ hw) wd_577 wd_32 wd_599 wd_576 (by decide +kernel) rfl ⟨Nat.le_of_ble_eq_true rfl, Nat.le_of_ble_eq_true rfl⟩ [] [0, 1, 2] rfl rfl rfl rfl (by decide) rfl (Nat.le_of_ble_eq_true rfl) ⟨Nat.le_of_ble_eq_true rfl, Nat.le_of_ble_eq_true rfl⟩ dX7_mixInto_31 (fun v ws' hp => ?_)
      obtain ⟨r3, rfl, rfl, hw⟩ := hp
      refine V_cast [(0, .ref h0), (1, .long x1), (3, .long x3), (5, .int x5)] [.long r3] [(h0, .inr (6, [.ref h1, .ref h2, .int n_count])), (h1, .inl (E.2.1, 20, .inl a_places)), (h2, .inl (E.2.1, 20, .inl a_cookies))] [0, 1, 2, 3] [0, 1, 2] rfl rfl rfl rfl ?_
      refine V_lstore_n hC [(3, .long r3), (0, .ref h0), (1, .long x1), (5, .int x5)] rfl (by decide) rfl dX7_mixInto_34 ?_
      refine V_iinc hC (x5 + 1) 3 [(5, .int (x5 + 1)), (3, .long r3), (0, .ref h0), (1, .long x1)] rfl (congrArg (fun z => x5 + z) (by decide : Int32.ofInt (1) = (1 : Int32))) (by decide) rfl dX7_mixInto_35 ?_
      refine V_goto hC 13 (by decide) dX7_mixInto_38 ?_
      refine V_cast [(0, .ref h0), (1, .long x1), (3, .long r3), (5, .int (x5 + 1))] [] [(h0, .inr (6, [.ref h1, .ref h2, .int n_count])), (h1, .inl (E.2.1, 20, .inl a_places)), (h2, .inl (E.2.1, 20, .inl a_cookies))] [2, 3, 1, 0] [0, 1, 2] rfl rfl rfl rfl ?_
      exact ih x1 r3 (x5 + 1) hw
def wp_X7_mixInto (a_places : Nat → Int32) (a_cookies : Nat → Int32) (n_count : Int32) (p1 : Int64) (K : Int64 → Prop) : Prop := (wp_X8_mix p1 (Int32.toInt64 n_count) (fun (r1 : Int64) => (∃ n8 : Nat, wpl_X7_mixInto_13 a_places a_cookies n_count K n8 p1 r1 0)))
set_option maxRecDepth 100000 in
set_option maxHeartbeats 4000000 in
theorem ct_X7_mixInto (l : Launch) (E : EN) (h0 : Nat) (h1 : Nat) (h2 : Nat) (a_places : Nat → Int32) (a_cookies : Nat → Int32) (n_count : Int32) (p1 : Int64) (K : Int64 → Prop) (hw : wp_X7_mixInto a_places a_cookies n_count p1 K) : Con l yX7_mixInto cX7_mixInto 6 (some .long) { frames := 1, cells := 0, slots := 0, locals := 23 } E [.ref h0, .long p1] [(h0, .inr (6, [.ref h1, .ref h2, .int n_count])), (h1, .inl (E.2.1, 20, .inl a_places)), (h2, .inl (E.2.1, 20, .inl a_cookies))] (po_X7_mixInto E h0 h1 h2 a_places a_cookies n_count K) := by
  refine Con.mk (by decide +kernel) (Nat.le_of_ble_eq_true rfl) ?_
  intro p e s m below meth c A hC hr hin
  have hC : Cx p s m _ meth c E A cX7_mixInto 6 "CookieServer$UsedCookies" := hC
  rw [wp_X7_mixInto] at hw
  refine V_cast [(0, .ref h0), (1, .long p1)] [] [(h0, .inr (6, [.ref h1, .ref h2, .int n_count])), (h1, .inl (E.2.1, 20, .inl a_places)), (h2, .inl (E.2.1, 20, .inl a_cookies))] [0, 1] [0, 1, 2] rfl rfl rfl rfl ?_
  refine V_lload_n hC 1 rfl rfl dX7_mixInto_0 ?_
  refine V_aload_n hC 0 rfl rfl dX7_mixInto_1 ?_
  refine V_get hC inX7 rfl 2 (by decide) wd_111 0 rfl rfl dX7_mixInto_2 ?_
  refine V_i2l hC dX7_mixInto_5 ?_
  refine V_callSN hC (wr := [(h0, .inr (6, [.ref h1, .ref h2, .int n_count])), (h1, .inl (E.2.1, 20, .inl a_places)), (h2, .inl (E.2.1, 20, .inl a_cookies))]) 2 [.long p1, .long (Int32.toInt64 n_count)] [] (ct_X8_mix l E p1 (Int32.toInt64 n_count) _ hw) wd_577 wd_32 wd_599 wd_576 (by decide +kernel) rfl ⟨Nat.le_of_ble_eq_true rfl, Nat.le_of_ble_eq_true rfl⟩ [] [0, 1, 2] rfl rfl rfl rfl (by decide) rfl (Nat.le_of_ble_eq_true rfl) ⟨Nat.le_of_ble_eq_true rfl, Nat.le_of_ble_eq_true rfl⟩ dX7_mixInto_6 (fun v ws' hp => ?_)
  obtain ⟨r1, rfl, rfl, hw⟩ := hp
  refine V_cast [(0, .ref h0), (1, .long p1)] [.long r1] [(h0, .inr (6, [.ref h1, .ref h2, .int n_count])), (h1, .inl (E.2.1, 20, .inl a_places)), (h2, .inl (E.2.1, 20, .inl a_cookies))] [0, 1] [0, 1, 2] rfl rfl rfl rfl ?_
  refine V_lstore_n hC [(3, .long r1), (0, .ref h0), (1, .long p1)] rfl (by decide) rfl dX7_mixInto_9 ?_
  refine V_iconst hC 0 dX7_mixInto_10 (by decide) ?_
  refine V_istore hC [(5, .int 0), (3, .long r1), (0, .ref h0), (1, .long p1)] (by decide) rfl dX7_mixInto_11 ?_
  refine V_cast [(0, .ref h0), (1, .long p1), (3, .long r1), (5, .int 0)] [] [(h0, .inr (6, [.ref h1, .ref h2, .int n_count])), (h1, .inl (E.2.1, 20, .inl a_places)), (h2, .inl (E.2.1, 20, .inl a_cookies))] [2, 3, 1, 0] [0, 1, 2] rfl rfl rfl rfl ?_
  obtain ⟨n8, hw⟩ := hw
  exact bl_X7_mixInto_13 hC hr h0 h1 h2 a_places a_cookies n_count K n8 p1 r1 0 hw
abbrev po_X1_copyFrom (E : EN) (h0 : Nat) (h1 : Nat) (h2 : Nat) (h3 : Nat) (o0 : Nat) (o1 : Nat) (o2 : Nat) (o3 : Nat) (a_places_o : Nat → Int32) (a_cookies_o : Nat → Int32) (a_ticks_o : Nat → Int32) (n_count_o : Int32) (K : (Nat → Int32) → (Nat → Int32) → (Nat → Int32) → Int32 → Prop) : Option Value → va_W → Prop := fun v ws' => ∃ (a_places : Nat → Int32) (a_cookies : Nat → Int32) (a_ticks : Nat → Int32) (n_count : Int32), v = none ∧ ws' = [(h0, .inr (0, [.ref h1, .ref h2, .ref h3, .int n_count])), (h1, .inl (E.2.1, 4, .inl a_places)), (h2, .inl (E.2.1, 4, .inl a_cookies)), (h3, .inl (E.2.1, 4, .inl a_ticks)), (o0, .inr (0, [.ref o1, .ref o2, .ref o3, .int n_count_o])), (o1, .inl (E.2.1, 4, .inl a_places_o)), (o2, .inl (E.2.1, 4, .inl a_cookies_o)), (o3, .inl (E.2.1, 4, .inl a_ticks_o))] ∧ K a_places a_cookies a_ticks n_count
def wp_X1_copyFrom (a_places : Nat → Int32) (a_cookies : Nat → Int32) (a_ticks : Nat → Int32) (n_count : Int32) (a_places_o : Nat → Int32) (a_cookies_o : Nat → Int32) (a_ticks_o : Nat → Int32) (n_count_o : Int32) (K : (Nat → Int32) → (Nat → Int32) → (Nat → Int32) → Int32 → Prop) : Prop := (∀ f1 : Nat → Int32, f1 = va_cpy a_places_o a_places 0 0 4 → (∀ f2 : Nat → Int32, f2 = va_cpy a_cookies_o a_cookies 0 0 4 → (∀ f3 : Nat → Int32, f3 = va_cpy a_ticks_o a_ticks 0 0 4 → K f1 f2 f3 n_count_o)))
set_option maxRecDepth 100000 in
set_option maxHeartbeats 4000000 in
theorem ct_X1_copyFrom (l : Launch) (E : EN) (h0 : Nat) (h1 : Nat) (h2 : Nat) (h3 : Nat) (o0 : Nat) (o1 : Nat) (o2 : Nat) (o3 : Nat) (a_places : Nat → Int32) (a_cookies : Nat → Int32) (a_ticks : Nat → Int32) (n_count : Int32) (a_places_o : Nat → Int32) (a_cookies_o : Nat → Int32) (a_ticks_o : Nat → Int32) (n_count_o : Int32) (K : (Nat → Int32) → (Nat → Int32) → (Nat → Int32) → Int32 → Prop) (hw : wp_X1_copyFrom a_places a_cookies a_ticks n_count a_places_o a_cookies_o a_ticks_o n_count_o K) : Con l yX1_copyFrom cX1_copyFrom 2 (none) { frames := 1, cells := 0, slots := 0, locals := 46 } E [.ref h0, .ref o0] [(h0, .inr (0, [.ref h1, .ref h2, .ref h3, .int n_count])), (h1, .inl (E.2.1, 4, .inl a_places)), (h2, .inl (E.2.1, 4, .inl a_cookies)), (h3, .inl (E.2.1, 4, .inl a_ticks)), (o0, .inr (0, [.ref o1, .ref o2, .ref o3, .int n_count_o])), (o1, .inl (E.2.1, 4, .inl a_places_o)), (o2, .inl (E.2.1, 4, .inl a_cookies_o)), (o3, .inl (E.2.1, 4, .inl a_ticks_o))] (po_X1_copyFrom E h0 h1 h2 h3 o0 o1 o2 o3 a_places_o a_cookies_o a_ticks_o n_count_o K) := by
  refine Con.mk (by decide +kernel) (Nat.le_of_ble_eq_true rfl) ?_
  intro p e s m below meth c A hC hr hin
  have hC : Cx p s m _ meth c E A cX1_copyFrom 2 "CookieServer$Entries" := hC
  rw [wp_X1_copyFrom] at hw
  refine V_cast [(0, .ref h0), (1, .ref o0)] [] [(h0, .inr (0, [.ref h1, .ref h2, .ref h3, .int n_count])), (h1, .inl (E.2.1, 4, .inl a_places)), (h2, .inl (E.2.1, 4, .inl a_cookies)), (h3, .inl (E.2.1, 4, .inl a_ticks)), (o0, .inr (0, [.ref o1, .ref o2, .ref o3, .int n_count_o])), (o1, .inl (E.2.1, 4, .inl a_places_o)), (o2, .inl (E.2.1, 4, .inl a_cookies_o)), (o3, .inl (E.2.1, 4, .inl a_ticks_o))] [0, 1] [0, 1, 2, 3, 4, 5, 6, 7] rfl rfl rfl rfl ?_
  refine V_aload_n hC 1 rfl rfl dX1_copyFrom_0 ?_
  refine V_get hC inX1 rfl 0 (by decide) wd_75 4 rfl rfl dX1_copyFrom_1 ?_
  refine V_iconst hC 0 dX1_copyFrom_4 (by decide) ?_
  refine V_aload_n hC 0 rfl rfl dX1_copyFrom_5 ?_
  refine V_get hC inX1 rfl 0 (by decide) wd_75 0 rfl rfl dX1_copyFrom_6 ?_
  refine V_iconst hC 0 dX1_copyFrom_9 (by decide) ?_
  refine V_iconst hC 4 dX1_copyFrom_10 (by decide) ?_
  refine V_copy hC 4 wd_249 wd_244 wd_243 wd_41 5 1 rfl rfl (by decide) (by decide) (by decide) (by decide) (Nat.le_of_ble_eq_true rfl) (Nat.le_of_ble_eq_true rfl) dX1_copyFrom_11 (fun f1 ef1 => ?_)
  have hw := hw f1 ef1
  refine V_ws [(h0, .inr (0, [.ref h1, .ref h2, .ref h3, .int n_count])), (h1, .inl (E.2.1, 4, .inl f1)), (h2, .inl (E.2.1, 4, .inl a_cookies)), (h3, .inl (E.2.1, 4, .inl a_ticks)), (o0, .inr (0, [.ref o1, .ref o2, .ref o3, .int n_count_o])), (o1, .inl (E.2.1, 4, .inl a_places_o)), (o2, .inl (E.2.1, 4, .inl a_cookies_o)), (o3, .inl (E.2.1, 4, .inl a_ticks_o))] rfl ?_
  refine V_aload_n hC 1 rfl rfl dX1_copyFrom_14 ?_
  refine V_get hC inX1 rfl 1 (by decide) wd_76 4 rfl rfl dX1_copyFrom_15 ?_
  refine V_iconst hC 0 dX1_copyFrom_18 (by decide) ?_
  refine V_aload_n hC 0 rfl rfl dX1_copyFrom_19 ?_
  refine V_get hC inX1 rfl 1 (by decide) wd_76 0 rfl rfl dX1_copyFrom_20 ?_
  refine V_iconst hC 0 dX1_copyFrom_23 (by decide) ?_
  refine V_iconst hC 4 dX1_copyFrom_24 (by decide) ?_
  refine V_copy hC 4 wd_249 wd_244 wd_243 wd_41 6 2 rfl rfl (by decide) (by decide) (by decide) (by decide) (Nat.le_of_ble_eq_true rfl) (Nat.le_of_ble_eq_true rfl) dX1_copyFrom_25 (fun f2 ef2 => ?_)
  have hw := hw f2 ef2
  refine V_ws [(h0, .inr (0, [.ref h1, .ref h2, .ref h3, .int n_count])), (h1, .inl (E.2.1, 4, .inl f1)), (h2, .inl (E.2.1, 4, .inl f2)), (h3, .inl (E.2.1, 4, .inl a_ticks)), (o0, .inr (0, [.ref o1, .ref o2, .ref o3, .int n_count_o])), (o1, .inl (E.2.1, 4, .inl a_places_o)), (o2, .inl (E.2.1, 4, .inl a_cookies_o)), (o3, .inl (E.2.1, 4, .inl a_ticks_o))] rfl ?_
  refine V_aload_n hC 1 rfl rfl dX1_copyFrom_28 ?_
  refine V_get hC inX1 rfl 2 (by decide) wd_77 4 rfl rfl dX1_copyFrom_29 ?_
  refine V_iconst hC 0 dX1_copyFrom_32 (by decide) ?_
  refine V_aload_n hC 0 rfl rfl dX1_copyFrom_33 ?_
  refine V_get hC inX1 rfl 2 (by decide) wd_77 0 rfl rfl dX1_copyFrom_34 ?_
  refine V_iconst hC 0 dX1_copyFrom_37 (by decide) ?_
  refine V_iconst hC 4 dX1_copyFrom_38 (by decide) ?_
  refine V_copy hC 4 wd_249 wd_244 wd_243 wd_41 7 3 rfl rfl (by decide) (by decide) (by decide) (by decide) (Nat.le_of_ble_eq_true rfl) (Nat.le_of_ble_eq_true rfl) dX1_copyFrom_39 (fun f3 ef3 => ?_)
  have hw := hw f3 ef3
  refine V_ws [(h0, .inr (0, [.ref h1, .ref h2, .ref h3, .int n_count])), (h1, .inl (E.2.1, 4, .inl f1)), (h2, .inl (E.2.1, 4, .inl f2)), (h3, .inl (E.2.1, 4, .inl f3)), (o0, .inr (0, [.ref o1, .ref o2, .ref o3, .int n_count_o])), (o1, .inl (E.2.1, 4, .inl a_places_o)), (o2, .inl (E.2.1, 4, .inl a_cookies_o)), (o3, .inl (E.2.1, 4, .inl a_ticks_o))] rfl ?_
  refine V_aload_n hC 0 rfl rfl dX1_copyFrom_42 ?_
  refine V_aload_n hC 1 rfl rfl dX1_copyFrom_43 ?_
  refine V_get hC inX1 rfl 3 (by decide) wd_78 4 rfl rfl dX1_copyFrom_44 ?_
  refine V_put hC [(h0, .inr (0, [.ref h1, .ref h2, .ref h3, .int n_count_o])), (h1, .inl (E.2.1, 4, .inl f1)), (h2, .inl (E.2.1, 4, .inl f2)), (h3, .inl (E.2.1, 4, .inl f3)), (o0, .inr (0, [.ref o1, .ref o2, .ref o3, .int n_count_o])), (o1, .inl (E.2.1, 4, .inl a_places_o)), (o2, .inl (E.2.1, 4, .inl a_cookies_o)), (o3, .inl (E.2.1, 4, .inl a_ticks_o))] inX1 tyX1_ok nmX1 rfl 3 (by decide) wd_78 rfl (ty := .int) (by decide +kernel) rfl rfl 0 rfl (Nat.le_of_ble_eq_true rfl) rfl dX1_copyFrom_47 ?_
  exact V_vret hC hr ⟨f1, f2, f3, n_count_o, rfl, rfl, hw⟩ dX1_copyFrom_50
abbrev po_X1_find (E : EN) (h0 : Nat) (h1 : Nat) (h2 : Nat) (h3 : Nat) (a_places : Nat → Int32) (a_cookies : Nat → Int32) (a_ticks : Nat → Int32) (n_count : Int32) (K : Int32 → Prop) : Option Value → va_W → Prop := fun v ws' => ∃ (r0 : Int32), v = some (.int r0) ∧ ws' = [(h0, .inr (0, [.ref h1, .ref h2, .ref h3, .int n_count])), (h1, .inl (E.2.1, 4, .inl a_places)), (h2, .inl (E.2.1, 4, .inl a_cookies)), (h3, .inl (E.2.1, 4, .inl a_ticks))] ∧ K r0
def wpl_X1_find_2 (a_places : Nat → Int32) (a_cookies : Nat → Int32) (a_ticks : Nat → Int32) (n_count : Int32) (K : Int32 → Prop) : Nat → Int32 → Int32 → Prop
  | 0, _, _ => False
  | n9 + 1, x1, x2 => ((n_count ≤ x2 → K (-1)) ∧ (¬ (n_count ≤ x2) → (vp_in x2 4 ∧ ((¬ (a_places (Int32.toNatClampNeg x2)) = x1 → wpl_X1_find_2 a_places a_cookies a_ticks n_count K n9 x1 (x2 + 1)) ∧ ((a_places (Int32.toNatClampNeg x2)) = x1 → K x2)))))
set_option maxRecDepth 100000 in
set_option maxHeartbeats 4000000 in
theorem bl_X1_find_2 {p : Program} {l : Launch} {e : Env} {s : State} {m : MethodId} {args : Array Value} {below : List Frame} {meth : Method} {c : Code} {E : EN} {A : Nat → Prop} (hC : Cx p s m args meth c E A cX1_find 3 "CookieServer$Entries") (hr : meth.sig.returnType = some .int) (h0 : Nat) (h1 : Nat) (h2 : Nat) (h3 : Nat) (a_places : Nat → Int32) (a_cookies : Nat → Int32) (a_ticks : Nat → Int32) (n_count : Int32) (K : Int32 → Prop) : ∀ (n8 : Nat) (x1 : Int32) (x2 : Int32), wpl_X1_find_2 a_places a_cookies a_ticks n_count K n8 x1 x2 → V p l e { frames := 0, cells := 0, slots := 0, locals := 0 } s m args below meth c E A 3 0 0 (MQ below (QP E (po_X1_find E h0 h1 h2 h3 a_places a_cookies a_ticks n_count K) A) args s 0 0 A) 2 [(0, .ref h0), (1, .int x1), (2, .int x2)] [] [(h0, .inr (0, [.ref h1, .ref h2, .ref h3, .int n_count])), (h1, .inl (E.2.1, 4, .inl a_places)), (h2, .inl (E.2.1, 4, .inl a_cookies)), (h3, .inl (E.2.1, 4, .inl a_ticks))] := by
  intro n8
  induction n8 with
  | zero => intro x1 x2 hw; rw [wpl_X1_find_2] at hw; exact hw.elim
  | succ n9 ih =>
    intro x1 x2 hw
    rw [wpl_X1_find_2] at hw
    refine V_iload_n hC 2 rfl rfl dX1_find_2 ?_
    refine V_aload_n hC 0 rfl rfl dX1_find_3 ?_
    refine V_get hC inX1 rfl 3 (by decide) wd_78 0 rfl rfl dX1_find_4 ?_
    refine V_icmp_ge hC 28 (by decide) dX1_find_7 (fun c1 => ?_) (fun c1 => ?_)
    · have hw := hw.1 c1
      refine V_iconst hC (-1) dX1_find_28 (by decide) ?_
      exact V_iret hC hr ⟨(-1), rfl, rfl, hw⟩ dX1_find_29
    · have hw := hw.2 c1
      refine V_aload_n hC 0 rfl rfl dX1_find_10 ?_
      refine V_get hC inX1 rfl 0 (by decide) wd_75 0 rfl rfl dX1_find_11 ?_
      refine V_iload_n hC 2 rfl rfl dX1_find_14 ?_
      refine V_iald hC _ rfl 1 rfl hw.1 dX1_find_15 ?_
      have hw := hw.2
      refine V_iload_n hC 1 rfl rfl dX1_find_16 ?_
      refine V_icmp_ne hC 22 (by decide) dX1_find_17 (fun c2 => ?_) (fun c2 => ?_)
      · have hw := hw.1 c2
        refine V_iinc hC (x2 + 1) 2 [(2, .int (x2 + 1)), (0, .ref h0), (1, .int x1)] rfl (congrArg (fun z => x2 + z) (by decide : Int32.ofInt (1) = (1 : Int32))) (by decide) rfl dX1_find_22 ?_
        refine V_goto hC 2 (by decide) dX1_find_25 ?_
        refine V_cast [(0, .ref h0), (1, .int x1), (2, .int (x2 + 1))] [] [(h0, .inr (0, [.ref h1, .ref h2, .ref h3, .int n_count])), (h1, .inl (E.2.1, 4, .inl a_places)), (h2, .inl (E.2.1, 4, .inl a_cookies)), (h3, .inl (E.2.1, 4, .inl a_ticks))] [1, 2, 0] [0, 1, 2, 3] rfl rfl rfl rfl ?_
        exact ih x1 (x2 + 1) hw
      · have hw := hw.2 c2
        refine V_iload_n hC 2 rfl rfl dX1_find_20 ?_
        exact V_iret hC hr ⟨x2, rfl, rfl, hw⟩ dX1_find_21
def wp_X1_find (a_places : Nat → Int32) (a_cookies : Nat → Int32) (a_ticks : Nat → Int32) (n_count : Int32) (p1 : Int32) (K : Int32 → Prop) : Prop := (∃ n8 : Nat, wpl_X1_find_2 a_places a_cookies a_ticks n_count K n8 p1 0)
set_option maxRecDepth 100000 in
set_option maxHeartbeats 4000000 in
theorem ct_X1_find (l : Launch) (E : EN) (h0 : Nat) (h1 : Nat) (h2 : Nat) (h3 : Nat) (a_places : Nat → Int32) (a_cookies : Nat → Int32) (a_ticks : Nat → Int32) (n_count : Int32) (p1 : Int32) (K : Int32 → Prop) (hw : wp_X1_find a_places a_cookies a_ticks n_count p1 K) : Con l yX1_find cX1_find 3 (some .int) { frames := 0, cells := 0, slots := 0, locals := 0 } E [.ref h0, .int p1] [(h0, .inr (0, [.ref h1, .ref h2, .ref h3, .int n_count])), (h1, .inl (E.2.1, 4, .inl a_places)), (h2, .inl (E.2.1, 4, .inl a_cookies)), (h3, .inl (E.2.1, 4, .inl a_ticks))] (po_X1_find E h0 h1 h2 h3 a_places a_cookies a_ticks n_count K) := by
  refine Con.mk (by decide +kernel) (Nat.le_of_ble_eq_true rfl) ?_
  intro p e s m below meth c A hC hr hin
  have hC : Cx p s m _ meth c E A cX1_find 3 "CookieServer$Entries" := hC
  rw [wp_X1_find] at hw
  refine V_cast [(0, .ref h0), (1, .int p1)] [] [(h0, .inr (0, [.ref h1, .ref h2, .ref h3, .int n_count])), (h1, .inl (E.2.1, 4, .inl a_places)), (h2, .inl (E.2.1, 4, .inl a_cookies)), (h3, .inl (E.2.1, 4, .inl a_ticks))] [0, 1] [0, 1, 2, 3] rfl rfl rfl rfl ?_
  refine V_iconst hC 0 dX1_find_0 (by decide) ?_
  refine V_istore_n hC [(2, .int 0), (0, .ref h0), (1, .int p1)] rfl (by decide) rfl dX1_find_1 ?_
  refine V_cast [(0, .ref h0), (1, .int p1), (2, .int 0)] [] [(h0, .inr (0, [.ref h1, .ref h2, .ref h3, .int n_count])), (h1, .inl (E.2.1, 4, .inl a_places)), (h2, .inl (E.2.1, 4, .inl a_cookies)), (h3, .inl (E.2.1, 4, .inl a_ticks))] [1, 2, 0] [0, 1, 2, 3] rfl rfl rfl rfl ?_
  obtain ⟨n8, hw⟩ := hw
  exact bl_X1_find_2 hC hr h0 h1 h2 h3 a_places a_cookies a_ticks n_count K n8 p1 0 hw
abbrev po_X1_holds (E : EN) (h0 : Nat) (h1 : Nat) (h2 : Nat) (h3 : Nat) (a_places : Nat → Int32) (a_cookies : Nat → Int32) (a_ticks : Nat → Int32) (n_count : Int32) (K : Int32 → Prop) : Option Value → va_W → Prop := fun v ws' => ∃ (r0 : Int32), v = some (.int r0) ∧ ws' = [(h0, .inr (0, [.ref h1, .ref h2, .ref h3, .int n_count])), (h1, .inl (E.2.1, 4, .inl a_places)), (h2, .inl (E.2.1, 4, .inl a_cookies)), (h3, .inl (E.2.1, 4, .inl a_ticks))] ∧ K r0
def wp_X1_holds (a_places : Nat → Int32) (a_cookies : Nat → Int32) (a_ticks : Nat → Int32) (n_count : Int32) (p1 : Int32) (p2 : Int32) (K : Int32 → Prop) : Prop := (wp_X1_find a_places a_cookies a_ticks n_count p1 (fun (r1 : Int32) => ((r1 < 0 → K 0) ∧ (¬ (r1 < 0) → (vp_in r1 4 ∧ ((¬ (a_cookies (Int32.toNatClampNeg r1)) = p2 → K 0) ∧ ((a_cookies (Int32.toNatClampNeg r1)) = p2 → K 1)))))))
set_option maxRecDepth 100000 in
set_option maxHeartbeats 4000000 in
theorem ct_X1_holds (l : Launch) (E : EN) (h0 : Nat) (h1 : Nat) (h2 : Nat) (h3 : Nat) (a_places : Nat → Int32) (a_cookies : Nat → Int32) (a_ticks : Nat → Int32) (n_count : Int32) (p1 : Int32) (p2 : Int32) (K : Int32 → Prop) (hw : wp_X1_holds a_places a_cookies a_ticks n_count p1 p2 K) : Con l yX1_holds cX1_holds 4 (some .boolean) { frames := 1, cells := 0, slots := 0, locals := 22 } E [.ref h0, .int p1, .int p2] [(h0, .inr (0, [.ref h1, .ref h2, .ref h3, .int n_count])), (h1, .inl (E.2.1, 4, .inl a_places)), (h2, .inl (E.2.1, 4, .inl a_cookies)), (h3, .inl (E.2.1, 4, .inl a_ticks))] (po_X1_holds E h0 h1 h2 h3 a_places a_cookies a_ticks n_count K) := by
  refine Con.mk (by decide +kernel) (Nat.le_of_ble_eq_true rfl) ?_
  intro p e s m below meth c A hC hr hin
  have hC : Cx p s m _ meth c E A cX1_holds 4 "CookieServer$Entries" := hC
  rw [wp_X1_holds] at hw
  refine V_cast [(0, .ref h0), (1, .int p1), (2, .int p2)] [] [(h0, .inr (0, [.ref h1, .ref h2, .ref h3, .int n_count])), (h1, .inl (E.2.1, 4, .inl a_places)), (h2, .inl (E.2.1, 4, .inl a_cookies)), (h3, .inl (E.2.1, 4, .inl a_ticks))] [0, 1, 2] [0, 1, 2, 3] rfl rfl rfl rfl ?_
  refine V_aload_n hC 0 rfl rfl dX1_holds_0 ?_
  refine V_iload_n hC 1 rfl rfl dX1_holds_1 ?_
  refine V_callV hC (wr := []) 1 [.int p1] [] (ct_X1_find l E h0 h1 h2 h3 a_places a_cookies a_ticks n_count p1 _ hw) wd_357 wd_35 wd_354 wd_356 wd_3 (by decide +kernel) rfl ⟨Nat.le_of_ble_eq_true rfl, Nat.le_of_ble_eq_true rfl⟩ [0, 1, 2, 3] [] rfl rfl rfl rfl (by decide) rfl rfl rfl (Nat.le_of_ble_eq_true rfl) ⟨Nat.le_of_ble_eq_true rfl, Nat.le_of_ble_eq_true rfl⟩ dX1_holds_2 (fun v ws' hp => ?_)
  obtain ⟨r1, rfl, rfl, hw⟩ := hp
  refine V_cast [(0, .ref h0), (1, .int p1), (2, .int p2)] [.int r1] [(h0, .inr (0, [.ref h1, .ref h2, .ref h3, .int n_count])), (h1, .inl (E.2.1, 4, .inl a_places)), (h2, .inl (E.2.1, 4, .inl a_cookies)), (h3, .inl (E.2.1, 4, .inl a_ticks))] [0, 1, 2] [0, 1, 2, 3] rfl rfl rfl rfl ?_
  refine V_istore_n hC [(3, .int r1), (0, .ref h0), (1, .int p1), (2, .int p2)] rfl (by decide) rfl dX1_holds_5 ?_
  refine V_iload_n hC 0 rfl rfl dX1_holds_6 ?_
  refine V_if_lt hC 24 (by decide) dX1_holds_7 (fun c2 => ?_) (fun c2 => ?_)
  · have hw := hw.1 c2
    refine V_iconst hC 0 dX1_holds_24 (by decide) ?_
    exact V_zret hC hr rfl ⟨0, rfl, rfl, hw⟩ dX1_holds_25
  · have hw := hw.2 c2
    refine V_aload_n hC 1 rfl rfl dX1_holds_10 ?_
    refine V_get hC inX1 rfl 1 (by decide) wd_76 0 rfl rfl dX1_holds_11 ?_
    refine V_iload_n hC 0 rfl rfl dX1_holds_14 ?_
    refine V_iald hC _ rfl 2 rfl hw.1 dX1_holds_15 ?_
    have hw := hw.2
    refine V_iload_n hC 3 rfl rfl dX1_holds_16 ?_
    refine V_icmp_ne hC 24 (by decide) dX1_holds_17 (fun c3 => ?_) (fun c3 => ?_)
    · have hw := hw.1 c3
      refine V_iconst hC 0 dX1_holds_24 (by decide) ?_
      exact V_zret hC hr rfl ⟨0, rfl, rfl, hw⟩ dX1_holds_25
    · have hw := hw.2 c3
      refine V_iconst hC 1 dX1_holds_20 (by decide) ?_
      refine V_goto hC 25 (by decide) dX1_holds_21 ?_
      exact V_zret hC hr rfl ⟨1, rfl, rfl, hw⟩ dX1_holds_25
abbrev po_X1_ageOf (E : EN) (h0 : Nat) (h1 : Nat) (h2 : Nat) (h3 : Nat) (a_places : Nat → Int32) (a_cookies : Nat → Int32) (a_ticks : Nat → Int32) (n_count : Int32) (K : Int32 → Prop) : Option Value → va_W → Prop := fun v ws' => ∃ (r0 : Int32), v = some (.int r0) ∧ ws' = [(h0, .inr (0, [.ref h1, .ref h2, .ref h3, .int n_count])), (h1, .inl (E.2.1, 4, .inl a_places)), (h2, .inl (E.2.1, 4, .inl a_cookies)), (h3, .inl (E.2.1, 4, .inl a_ticks))] ∧ K r0
def wp_X1_ageOf (a_places : Nat → Int32) (a_cookies : Nat → Int32) (a_ticks : Nat → Int32) (n_count : Int32) (p1 : Int32) (p2 : Int32) (K : Int32 → Prop) : Prop := (wp_X1_find a_places a_cookies a_ticks n_count p1 (fun (r1 : Int32) => ((r1 < 0 → K (-1)) ∧ (¬ (r1 < 0) → (vp_in r1 4 ∧ K (p2 - (a_ticks (Int32.toNatClampNeg r1))))))))
set_option maxRecDepth 100000 in
set_option maxHeartbeats 4000000 in
theorem ct_X1_ageOf (l : Launch) (E : EN) (h0 : Nat) (h1 : Nat) (h2 : Nat) (h3 : Nat) (a_places : Nat → Int32) (a_cookies : Nat → Int32) (a_ticks : Nat → Int32) (n_count : Int32) (p1 : Int32) (p2 : Int32) (K : Int32 → Prop) (hw : wp_X1_ageOf a_places a_cookies a_ticks n_count p1 p2 K) : Con l yX1_ageOf cX1_ageOf 4 (some .int) { frames := 1, cells := 0, slots := 0, locals := 22 } E [.ref h0, .int p1, .int p2] [(h0, .inr (0, [.ref h1, .ref h2, .ref h3, .int n_count])), (h1, .inl (E.2.1, 4, .inl a_places)), (h2, .inl (E.2.1, 4, .inl a_cookies)), (h3, .inl (E.2.1, 4, .inl a_ticks))] (po_X1_ageOf E h0 h1 h2 h3 a_places a_cookies a_ticks n_count K) := by
  refine Con.mk (by decide +kernel) (Nat.le_of_ble_eq_true rfl) ?_
  intro p e s m below meth c A hC hr hin
  have hC : Cx p s m _ meth c E A cX1_ageOf 4 "CookieServer$Entries" := hC
  rw [wp_X1_ageOf] at hw
  refine V_cast [(0, .ref h0), (1, .int p1), (2, .int p2)] [] [(h0, .inr (0, [.ref h1, .ref h2, .ref h3, .int n_count])), (h1, .inl (E.2.1, 4, .inl a_places)), (h2, .inl (E.2.1, 4, .inl a_cookies)), (h3, .inl (E.2.1, 4, .inl a_ticks))] [0, 1, 2] [0, 1, 2, 3] rfl rfl rfl rfl ?_
  refine V_aload_n hC 0 rfl rfl dX1_ageOf_0 ?_
  refine V_iload_n hC 1 rfl rfl dX1_ageOf_1 ?_
  refine V_callV hC (wr := []) 1 [.int p1] [] (ct_X1_find l E h0 h1 h2 h3 a_places a_cookies a_ticks n_count p1 _ hw) wd_357 wd_35 wd_354 wd_356 wd_3 (by decide +kernel) rfl ⟨Nat.le_of_ble_eq_true rfl, Nat.le_of_ble_eq_true rfl⟩ [0, 1, 2, 3] [] rfl rfl rfl rfl (by decide) rfl rfl rfl (Nat.le_of_ble_eq_true rfl) ⟨Nat.le_of_ble_eq_true rfl, Nat.le_of_ble_eq_true rfl⟩ dX1_ageOf_2 (fun v ws' hp => ?_)
  obtain ⟨r1, rfl, rfl, hw⟩ := hp
  refine V_cast [(0, .ref h0), (1, .int p1), (2, .int p2)] [.int r1] [(h0, .inr (0, [.ref h1, .ref h2, .ref h3, .int n_count])), (h1, .inl (E.2.1, 4, .inl a_places)), (h2, .inl (E.2.1, 4, .inl a_cookies)), (h3, .inl (E.2.1, 4, .inl a_ticks))] [0, 1, 2] [0, 1, 2, 3] rfl rfl rfl rfl ?_
  refine V_istore_n hC [(3, .int r1), (0, .ref h0), (1, .int p1), (2, .int p2)] rfl (by decide) rfl dX1_ageOf_5 ?_
  refine V_iload_n hC 0 rfl rfl dX1_ageOf_6 ?_
  refine V_if_lt hC 21 (by decide) dX1_ageOf_7 (fun c2 => ?_) (fun c2 => ?_)
  · have hw := hw.1 c2
    refine V_iconst hC (-1) dX1_ageOf_21 (by decide) ?_
    exact V_iret hC hr ⟨(-1), rfl, rfl, hw⟩ dX1_ageOf_22
  · have hw := hw.2 c2
    refine V_iload_n hC 3 rfl rfl dX1_ageOf_10 ?_
    refine V_aload_n hC 1 rfl rfl dX1_ageOf_11 ?_
    refine V_get hC inX1 rfl 2 (by decide) wd_77 0 rfl rfl dX1_ageOf_12 ?_
    refine V_iload_n hC 0 rfl rfl dX1_ageOf_15 ?_
    refine V_iald hC _ rfl 3 rfl hw.1 dX1_ageOf_16 ?_
    have hw := hw.2
    refine V_isub hC dX1_ageOf_17 ?_
    refine V_goto hC 22 (by decide) dX1_ageOf_18 ?_
    exact V_iret hC hr ⟨p2 - (a_ticks (Int32.toNatClampNeg r1)), rfl, rfl, hw⟩ dX1_ageOf_22
abbrev po_X1_keep (E : EN) (h0 : Nat) (h1 : Nat) (h2 : Nat) (h3 : Nat) (K : (Nat → Int32) → (Nat → Int32) → (Nat → Int32) → Int32 → Prop) : Option Value → va_W → Prop := fun v ws' => ∃ (a_places : Nat → Int32) (a_cookies : Nat → Int32) (a_ticks : Nat → Int32) (n_count : Int32), v = none ∧ ws' = [(h0, .inr (0, [.ref h1, .ref h2, .ref h3, .int n_count])), (h1, .inl (E.2.1, 4, .inl a_places)), (h2, .inl (E.2.1, 4, .inl a_cookies)), (h3, .inl (E.2.1, 4, .inl a_ticks))] ∧ K a_places a_cookies a_ticks n_count
def wp_X1_keep (a_places : Nat → Int32) (a_cookies : Nat → Int32) (a_ticks : Nat → Int32) (n_count : Int32) (p1 : Int32) (p2 : Int32) (p3 : Int32) (p4 : Int32) (K : (Nat → Int32) → (Nat → Int32) → (Nat → Int32) → Int32 → Prop) : Prop := (wp_X1_find a_places a_cookies a_ticks n_count p1 (fun (r1 : Int32) => ((0 ≤ r1 → (vp_in r1 4 ∧ (∀ f3 : Nat → Int32, f3 = upd a_places (Int32.toNatClampNeg r1) p1 → (vp_in r1 4 ∧ (∀ f4 : Nat → Int32, f4 = upd a_cookies (Int32.toNatClampNeg r1) p2 → (vp_in r1 4 ∧ (∀ f5 : Nat → Int32, f5 = upd a_ticks (Int32.toNatClampNeg r1) p3 → K f3 f4 f5 n_count))))))) ∧ (¬ (0 ≤ r1) → ((p4 = 0 → K a_places a_cookies a_ticks n_count) ∧ (¬ (p4 = 0) → ((n_count < 4 → (vp_in n_count 4 ∧ (∀ f8 : Nat → Int32, f8 = upd a_places (Int32.toNatClampNeg n_count) p1 → (vp_in n_count 4 ∧ (∀ f9 : Nat → Int32, f9 = upd a_cookies (Int32.toNatClampNeg n_count) p2 → (vp_in n_count 4 ∧ (∀ f10 : Nat → Int32, f10 = upd a_ticks (Int32.toNatClampNeg n_count) p3 → K f8 f9 f10 (n_count + 1)))))))) ∧ (¬ (n_count < 4) → K a_places a_cookies a_ticks n_count))))))))
set_option maxRecDepth 100000 in
set_option maxHeartbeats 4000000 in
theorem ct_X1_keep (l : Launch) (E : EN) (h0 : Nat) (h1 : Nat) (h2 : Nat) (h3 : Nat) (a_places : Nat → Int32) (a_cookies : Nat → Int32) (a_ticks : Nat → Int32) (n_count : Int32) (p1 : Int32) (p2 : Int32) (p3 : Int32) (p4 : Int32) (K : (Nat → Int32) → (Nat → Int32) → (Nat → Int32) → Int32 → Prop) (hw : wp_X1_keep a_places a_cookies a_ticks n_count p1 p2 p3 p4 K) : Con l yX1_keep cX1_keep 6 (none) { frames := 1, cells := 0, slots := 0, locals := 22 } E [.ref h0, .int p1, .int p2, .int p3, .int p4] [(h0, .inr (0, [.ref h1, .ref h2, .ref h3, .int n_count])), (h1, .inl (E.2.1, 4, .inl a_places)), (h2, .inl (E.2.1, 4, .inl a_cookies)), (h3, .inl (E.2.1, 4, .inl a_ticks))] (po_X1_keep E h0 h1 h2 h3 K) := by
  refine Con.mk (by decide +kernel) (Nat.le_of_ble_eq_true rfl) ?_
  intro p e s m below meth c A hC hr hin
  have hC : Cx p s m _ meth c E A cX1_keep 6 "CookieServer$Entries" := hC
  rw [wp_X1_keep] at hw
  refine V_cast [(0, .ref h0), (1, .int p1), (2, .int p2), (3, .int p3), (4, .int p4)] [] [(h0, .inr (0, [.ref h1, .ref h2, .ref h3, .int n_count])), (h1, .inl (E.2.1, 4, .inl a_places)), (h2, .inl (E.2.1, 4, .inl a_cookies)), (h3, .inl (E.2.1, 4, .inl a_ticks))] [0, 1, 2, 3, 4] [0, 1, 2, 3] rfl rfl rfl rfl ?_
  refine V_aload_n hC 0 rfl rfl dX1_keep_0 ?_
  refine V_iload_n hC 1 rfl rfl dX1_keep_1 ?_
  refine V_callV hC (wr := []) 1 [.int p1] [] (ct_X1_find l E h0 h1 h2 h3 a_places a_cookies a_ticks n_count p1 _ hw) wd_357 wd_35 wd_354 wd_356 wd_3 (by decide +kernel) rfl ⟨Nat.le_of_ble_eq_true rfl, Nat.le_of_ble_eq_true rfl⟩ [0, 1, 2, 3] [] rfl rfl rfl rfl (by decide) rfl rfl rfl (Nat.le_of_ble_eq_true rfl) ⟨Nat.le_of_ble_eq_true rfl, Nat.le_of_ble_eq_true rfl⟩ dX1_keep_2 (fun v ws' hp => ?_)
  obtain ⟨r1, rfl, rfl, hw⟩ := hp
  refine V_cast [(0, .ref h0), (1, .int p1), (2, .int p2), (3, .int p3), (4, .int p4)] [.int r1] [(h0, .inr (0, [.ref h1, .ref h2, .ref h3, .int n_count])), (h1, .inl (E.2.1, 4, .inl a_places)), (h2, .inl (E.2.1, 4, .inl a_cookies)), (h3, .inl (E.2.1, 4, .inl a_ticks))] [0, 1, 2, 3, 4] [0, 1, 2, 3] rfl rfl rfl rfl ?_
  refine V_istore hC [(5, .int r1), (0, .ref h0), (1, .int p1), (2, .int p2), (3, .int p3), (4, .int p4)] (by decide) rfl dX1_keep_5 ?_
  refine V_iload hC 0 rfl dX1_keep_7 ?_
  refine V_if_ge hC 42 (by decide) dX1_keep_9 (fun c2 => ?_) (fun c2 => ?_)
  · have hw := hw.1 c2
    refine V_aload_n hC 1 rfl rfl dX1_keep_42 ?_
    refine V_get hC inX1 rfl 0 (by decide) wd_75 0 rfl rfl dX1_keep_43 ?_
    refine V_iload hC 0 rfl dX1_keep_46 ?_
    refine V_iload_n hC 2 rfl rfl dX1_keep_48 ?_
    refine V_iast hC _ rfl 1 rfl hw.1 dX1_keep_49 (fun f3 ef3 => ?_)
    have hw := hw.2
    have hw := hw f3 ef3
    refine V_ws [(h0, .inr (0, [.ref h1, .ref h2, .ref h3, .int n_count])), (h1, .inl (E.2.1, 4, .inl f3)), (h2, .inl (E.2.1, 4, .inl a_cookies)), (h3, .inl (E.2.1, 4, .inl a_ticks))] rfl ?_
    refine V_aload_n hC 1 rfl rfl dX1_keep_50 ?_
    refine V_get hC inX1 rfl 1 (by decide) wd_76 0 rfl rfl dX1_keep_51 ?_
    refine V_iload hC 0 rfl dX1_keep_54 ?_
    refine V_iload_n hC 3 rfl rfl dX1_keep_56 ?_
    refine V_iast hC _ rfl 2 rfl hw.1 dX1_keep_57 (fun f4 ef4 => ?_)
    have hw := hw.2
    have hw := hw f4 ef4
    refine V_ws [(h0, .inr (0, [.ref h1, .ref h2, .ref h3, .int n_count])), (h1, .inl (E.2.1, 4, .inl f3)), (h2, .inl (E.2.1, 4, .inl f4)), (h3, .inl (E.2.1, 4, .inl a_ticks))] rfl ?_
    refine V_aload_n hC 1 rfl rfl dX1_keep_58 ?_
    refine V_get hC inX1 rfl 2 (by decide) wd_77 0 rfl rfl dX1_keep_59 ?_
    refine V_iload hC 0 rfl dX1_keep_62 ?_
    refine V_iload_n hC 4 rfl rfl dX1_keep_64 ?_
    refine V_iast hC _ rfl 3 rfl hw.1 dX1_keep_65 (fun f5 ef5 => ?_)
    have hw := hw.2
    have hw := hw f5 ef5
    refine V_ws [(h0, .inr (0, [.ref h1, .ref h2, .ref h3, .int n_count])), (h1, .inl (E.2.1, 4, .inl f3)), (h2, .inl (E.2.1, 4, .inl f4)), (h3, .inl (E.2.1, 4, .inl f5))] rfl ?_
    exact V_vret hC hr ⟨f3, f4, f5, n_count, rfl, rfl, hw⟩ dX1_keep_66
  · have hw := hw.2 c2
    refine V_iload hC 5 rfl dX1_keep_12 ?_
    refine V_if_eq hC 25 (by decide) dX1_keep_14 (fun c6 => ?_) (fun c6 => ?_)
    · have hw := hw.1 c6
      exact V_vret hC hr ⟨a_places, a_cookies, a_ticks, n_count, rfl, rfl, hw⟩ dX1_keep_25
    · have hw := hw.2 c6
      refine V_aload_n hC 1 rfl rfl dX1_keep_17 ?_
      refine V_get hC inX1 rfl 3 (by decide) wd_78 0 rfl rfl dX1_keep_18 ?_
      refine V_iconst hC 4 dX1_keep_21 (by decide) ?_
      refine V_icmp_lt hC 26 (by decide) dX1_keep_22 (fun c7 => ?_) (fun c7 => ?_)
      · have hw := hw.1 c7
        refine V_aload_n hC 1 rfl rfl dX1_keep_26 ?_
        refine V_get hC inX1 rfl 3 (by decide) wd_78 0 rfl rfl dX1_keep_27 ?_
        refine V_istore hC [(5, .int n_count), (0, .ref h0), (1, .int p1), (2, .int p2), (3, .int p3), (4, .int p4)] (by decide) rfl dX1_keep_30 ?_
        refine V_aload_n hC 1 rfl rfl dX1_keep_32 ?_
        refine V_dup hC rfl dX1_keep_33 ?_
        refine V_get hC inX1 rfl 3 (by decide) wd_78 0 rfl rfl dX1_keep_34 ?_
        refine V_iconst hC 1 dX1_keep_37 (by decide) ?_
        refine V_iadd hC dX1_keep_38 ?_
        refine V_put hC [(h0, .inr (0, [.ref h1, .ref h2, .ref h3, .int (n_count + 1)])), (h1, .inl (E.2.1, 4, .inl a_places)), (h2, .inl (E.2.1, 4, .inl a_cookies)), (h3, .inl (E.2.1, 4, .inl a_ticks))] inX1 tyX1_ok nmX1 rfl 3 (by decide) wd_78 rfl (ty := .int) (by decide +kernel) rfl rfl 0 rfl (Nat.le_of_ble_eq_true rfl) rfl dX1_keep_39 ?_
        refine V_aload_n hC 1 rfl rfl dX1_keep_42 ?_
        refine V_get hC inX1 rfl 0 (by decide) wd_75 0 rfl rfl dX1_keep_43 ?_
        refine V_iload hC 0 rfl dX1_keep_46 ?_
        refine V_iload_n hC 2 rfl rfl dX1_keep_48 ?_
        refine V_iast hC _ rfl 1 rfl hw.1 dX1_keep_49 (fun f8 ef8 => ?_)
        have hw := hw.2
        have hw := hw f8 ef8
        refine V_ws [(h0, .inr (0, [.ref h1, .ref h2, .ref h3, .int (n_count + 1)])), (h1, .inl (E.2.1, 4, .inl f8)), (h2, .inl (E.2.1, 4, .inl a_cookies)), (h3, .inl (E.2.1, 4, .inl a_ticks))] rfl ?_
        refine V_aload_n hC 1 rfl rfl dX1_keep_50 ?_
        refine V_get hC inX1 rfl 1 (by decide) wd_76 0 rfl rfl dX1_keep_51 ?_
        refine V_iload hC 0 rfl dX1_keep_54 ?_
        refine V_iload_n hC 3 rfl rfl dX1_keep_56 ?_
        refine V_iast hC _ rfl 2 rfl hw.1 dX1_keep_57 (fun f9 ef9 => ?_)
        have hw := hw.2
        have hw := hw f9 ef9
        refine V_ws [(h0, .inr (0, [.ref h1, .ref h2, .ref h3, .int (n_count + 1)])), (h1, .inl (E.2.1, 4, .inl f8)), (h2, .inl (E.2.1, 4, .inl f9)), (h3, .inl (E.2.1, 4, .inl a_ticks))] rfl ?_
        refine V_aload_n hC 1 rfl rfl dX1_keep_58 ?_
        refine V_get hC inX1 rfl 2 (by decide) wd_77 0 rfl rfl dX1_keep_59 ?_
        refine V_iload hC 0 rfl dX1_keep_62 ?_
        refine V_iload_n hC 4 rfl rfl dX1_keep_64 ?_
        refine V_iast hC _ rfl 3 rfl hw.1 dX1_keep_65 (fun f10 ef10 => ?_)
        have hw := hw.2
        have hw := hw f10 ef10
        refine V_ws [(h0, .inr (0, [.ref h1, .ref h2, .ref h3, .int (n_count + 1)])), (h1, .inl (E.2.1, 4, .inl f8)), (h2, .inl (E.2.1, 4, .inl f9)), (h3, .inl (E.2.1, 4, .inl f10))] rfl ?_
        exact V_vret hC hr ⟨f8, f9, f10, n_count + 1, rfl, rfl, hw⟩ dX1_keep_66
      · have hw := hw.2 c7
        exact V_vret hC hr ⟨a_places, a_cookies, a_ticks, n_count, rfl, rfl, hw⟩ dX1_keep_25
abbrev po_X1_move (E : EN) (h0 : Nat) (h1 : Nat) (h2 : Nat) (h3 : Nat) (n_count : Int32) (K : (Nat → Int32) → (Nat → Int32) → (Nat → Int32) → Prop) : Option Value → va_W → Prop := fun v ws' => ∃ (a_places : Nat → Int32) (a_cookies : Nat → Int32) (a_ticks : Nat → Int32), v = none ∧ ws' = [(h0, .inr (0, [.ref h1, .ref h2, .ref h3, .int n_count])), (h1, .inl (E.2.1, 4, .inl a_places)), (h2, .inl (E.2.1, 4, .inl a_cookies)), (h3, .inl (E.2.1, 4, .inl a_ticks))] ∧ K a_places a_cookies a_ticks
def wp_X1_move (a_places : Nat → Int32) (a_cookies : Nat → Int32) (a_ticks : Nat → Int32) (n_count : Int32) (p1 : Int32) (p2 : Int32) (K : (Nat → Int32) → (Nat → Int32) → (Nat → Int32) → Prop) : Prop := (vp_in p1 4 ∧ (vp_in p2 4 ∧ (∀ f1 : Nat → Int32, f1 = upd a_places (Int32.toNatClampNeg p2) (a_places (Int32.toNatClampNeg p1)) → (vp_in p1 4 ∧ (vp_in p2 4 ∧ (∀ f2 : Nat → Int32, f2 = upd a_cookies (Int32.toNatClampNeg p2) (a_cookies (Int32.toNatClampNeg p1)) → (vp_in p1 4 ∧ (vp_in p2 4 ∧ (∀ f3 : Nat → Int32, f3 = upd a_ticks (Int32.toNatClampNeg p2) (a_ticks (Int32.toNatClampNeg p1)) → K f1 f2 f3)))))))))
set_option maxRecDepth 100000 in
set_option maxHeartbeats 4000000 in
theorem ct_X1_move (l : Launch) (E : EN) (h0 : Nat) (h1 : Nat) (h2 : Nat) (h3 : Nat) (a_places : Nat → Int32) (a_cookies : Nat → Int32) (a_ticks : Nat → Int32) (n_count : Int32) (p1 : Int32) (p2 : Int32) (K : (Nat → Int32) → (Nat → Int32) → (Nat → Int32) → Prop) (hw : wp_X1_move a_places a_cookies a_ticks n_count p1 p2 K) : Con l yX1_move cX1_move 3 (none) { frames := 0, cells := 0, slots := 0, locals := 0 } E [.ref h0, .int p1, .int p2] [(h0, .inr (0, [.ref h1, .ref h2, .ref h3, .int n_count])), (h1, .inl (E.2.1, 4, .inl a_places)), (h2, .inl (E.2.1, 4, .inl a_cookies)), (h3, .inl (E.2.1, 4, .inl a_ticks))] (po_X1_move E h0 h1 h2 h3 n_count K) := by
  refine Con.mk (by decide +kernel) (Nat.le_of_ble_eq_true rfl) ?_
  intro p e s m below meth c A hC hr hin
  have hC : Cx p s m _ meth c E A cX1_move 3 "CookieServer$Entries" := hC
  rw [wp_X1_move] at hw
  refine V_cast [(0, .ref h0), (1, .int p1), (2, .int p2)] [] [(h0, .inr (0, [.ref h1, .ref h2, .ref h3, .int n_count])), (h1, .inl (E.2.1, 4, .inl a_places)), (h2, .inl (E.2.1, 4, .inl a_cookies)), (h3, .inl (E.2.1, 4, .inl a_ticks))] [0, 1, 2] [0, 1, 2, 3] rfl rfl rfl rfl ?_
  refine V_aload_n hC 0 rfl rfl dX1_move_0 ?_
  refine V_get hC inX1 rfl 0 (by decide) wd_75 0 rfl rfl dX1_move_1 ?_
  refine V_iload_n hC 2 rfl rfl dX1_move_4 ?_
  refine V_aload_n hC 0 rfl rfl dX1_move_5 ?_
  refine V_get hC inX1 rfl 0 (by decide) wd_75 0 rfl rfl dX1_move_6 ?_
  refine V_iload_n hC 1 rfl rfl dX1_move_9 ?_
  refine V_iald hC _ rfl 1 rfl hw.1 dX1_move_10 ?_
  have hw := hw.2
  refine V_iast hC _ rfl 1 rfl hw.1 dX1_move_11 (fun f1 ef1 => ?_)
  have hw := hw.2
  have hw := hw f1 ef1
  refine V_ws [(h0, .inr (0, [.ref h1, .ref h2, .ref h3, .int n_count])), (h1, .inl (E.2.1, 4, .inl f1)), (h2, .inl (E.2.1, 4, .inl a_cookies)), (h3, .inl (E.2.1, 4, .inl a_ticks))] rfl ?_
  refine V_aload_n hC 0 rfl rfl dX1_move_12 ?_
  refine V_get hC inX1 rfl 1 (by decide) wd_76 0 rfl rfl dX1_move_13 ?_
  refine V_iload_n hC 2 rfl rfl dX1_move_16 ?_
  refine V_aload_n hC 0 rfl rfl dX1_move_17 ?_
  refine V_get hC inX1 rfl 1 (by decide) wd_76 0 rfl rfl dX1_move_18 ?_
  refine V_iload_n hC 1 rfl rfl dX1_move_21 ?_
  refine V_iald hC _ rfl 2 rfl hw.1 dX1_move_22 ?_
  have hw := hw.2
  refine V_iast hC _ rfl 2 rfl hw.1 dX1_move_23 (fun f2 ef2 => ?_)
  have hw := hw.2
  have hw := hw f2 ef2
  refine V_ws [(h0, .inr (0, [.ref h1, .ref h2, .ref h3, .int n_count])), (h1, .inl (E.2.1, 4, .inl f1)), (h2, .inl (E.2.1, 4, .inl f2)), (h3, .inl (E.2.1, 4, .inl a_ticks))] rfl ?_
  refine V_aload_n hC 0 rfl rfl dX1_move_24 ?_
  refine V_get hC inX1 rfl 2 (by decide) wd_77 0 rfl rfl dX1_move_25 ?_
  refine V_iload_n hC 2 rfl rfl dX1_move_28 ?_
  refine V_aload_n hC 0 rfl rfl dX1_move_29 ?_
  refine V_get hC inX1 rfl 2 (by decide) wd_77 0 rfl rfl dX1_move_30 ?_
  refine V_iload_n hC 1 rfl rfl dX1_move_33 ?_
  refine V_iald hC _ rfl 3 rfl hw.1 dX1_move_34 ?_
  have hw := hw.2
  refine V_iast hC _ rfl 3 rfl hw.1 dX1_move_35 (fun f3 ef3 => ?_)
  have hw := hw.2
  have hw := hw f3 ef3
  refine V_ws [(h0, .inr (0, [.ref h1, .ref h2, .ref h3, .int n_count])), (h1, .inl (E.2.1, 4, .inl f1)), (h2, .inl (E.2.1, 4, .inl f2)), (h3, .inl (E.2.1, 4, .inl f3))] rfl ?_
  exact V_vret hC hr ⟨f1, f2, f3, rfl, rfl, hw⟩ dX1_move_36
abbrev po_X1_drop (E : EN) (h0 : Nat) (h1 : Nat) (h2 : Nat) (h3 : Nat) (K : (Nat → Int32) → (Nat → Int32) → (Nat → Int32) → Int32 → Prop) : Option Value → va_W → Prop := fun v ws' => ∃ (a_places : Nat → Int32) (a_cookies : Nat → Int32) (a_ticks : Nat → Int32) (n_count : Int32), v = none ∧ ws' = [(h0, .inr (0, [.ref h1, .ref h2, .ref h3, .int n_count])), (h1, .inl (E.2.1, 4, .inl a_places)), (h2, .inl (E.2.1, 4, .inl a_cookies)), (h3, .inl (E.2.1, 4, .inl a_ticks))] ∧ K a_places a_cookies a_ticks n_count
def wpl_X1_drop_4 (K : (Nat → Int32) → (Nat → Int32) → (Nat → Int32) → Int32 → Prop) : Nat → Int32 → Int32 → Int32 → (Nat → Int32) → (Nat → Int32) → (Nat → Int32) → Int32 → Prop
  | 0, _, _, _, _, _, _, _ => False
  | n9 + 1, x1, x2, x3, a_places, a_cookies, a_ticks, n_count => ((n_count ≤ x3 → K a_places a_cookies a_ticks x2) ∧ (¬ (n_count ≤ x3) → (vp_in x3 4 ∧ (((a_places (Int32.toNatClampNeg x3)) = x1 → wpl_X1_drop_4 K n9 x1 x2 (x3 + 1) a_places a_cookies a_ticks n_count) ∧ (¬ ((a_places (Int32.toNatClampNeg x3)) = x1) → (wp_X1_move a_places a_cookies a_ticks n_count x3 x2 (fun (g3 : Nat → Int32) (g4 : Nat → Int32) (g5 : Nat → Int32) => wpl_X1_drop_4 K n9 x1 (x2 + 1) (x3 + 1) g3 g4 g5 n_count)))))))
set_option maxRecDepth 100000 in
set_option maxHeartbeats 4000000 in
theorem bl_X1_drop_4 {p : Program} {l : Launch} {e : Env} {s : State} {m : MethodId} {args : Array Value} {below : List Frame} {meth : Method} {c : Code} {E : EN} {A : Nat → Prop} (hC : Cx p s m args meth c E A cX1_drop 4 "CookieServer$Entries") (hr : meth.sig.returnType = none) (h0 : Nat) (h1 : Nat) (h2 : Nat) (h3 : Nat) (K : (Nat → Int32) → (Nat → Int32) → (Nat → Int32) → Int32 → Prop) : ∀ (n8 : Nat) (x1 : Int32) (x2 : Int32) (x3 : Int32) (a_places : Nat → Int32) (a_cookies : Nat → Int32) (a_ticks : Nat → Int32) (n_count : Int32), wpl_X1_drop_4 K n8 x1 x2 x3 a_places a_cookies a_ticks n_count → V p l e { frames := 1, cells := 0, slots := 0, locals := 22 } s m args below meth c E A 4 0 0 (MQ below (QP E (po_X1_drop E h0 h1 h2 h3 K) A) args s 0 0 A) 4 [(0, .ref h0), (1, .int x1), (2, .int x2), (3, .int x3)] [] [(h0, .inr (0, [.ref h1, .ref h2, .ref h3, .int n_count])), (h1, .inl (E.2.1, 4, .inl a_places)), (h2, .inl (E.2.1, 4, .inl a_cookies)), (h3, .inl (E.2.1, 4, .inl a_ticks))] := by
  intro n8
  induction n8 with
  | zero => intro x1 x2 x3 a_places a_cookies a_ticks n_count hw; rw [wpl_X1_drop_4] at hw; exact hw.elim
  | succ n9 ih =>
    intro x1 x2 x3 a_places a_cookies a_ticks n_count hw
    rw [wpl_X1_drop_4] at hw
    refine V_iload_n hC 3 rfl rfl dX1_drop_4 ?_
    refine V_aload_n hC 0 rfl rfl dX1_drop_5 ?_
    refine V_get hC inX1 rfl 3 (by decide) wd_78 0 rfl rfl dX1_drop_6 ?_
    refine V_icmp_ge hC 37 (by decide) dX1_drop_9 (fun c1 => ?_) (fun c1 => ?_)
    · have hw := hw.1 c1
      refine V_aload_n hC 0 rfl rfl dX1_drop_37 ?_
      refine V_iload_n hC 2 rfl rfl dX1_drop_38 ?_
      refine V_put hC [(h0, .inr (0, [.ref h1, .ref h2, .ref h3, .int x2])), (h1, .inl (E.2.1, 4, .inl a_places)), (h2, .inl (E.2.1, 4, .inl a_cookies)), (h3, .inl (E.2.1, 4, .inl a_ticks))] inX1 tyX1_ok nmX1 rfl 3 (by decide) wd_78 rfl (ty := .int) (by decide +kernel) rfl rfl 0 rfl (Nat.le_of_ble_eq_true rfl) rfl dX1_drop_39 ?_
      exact V_vret hC hr ⟨a_places, a_cookies, a_ticks, x2, rfl, rfl, hw⟩ dX1_drop_42
    · have hw := hw.2 c1
      refine V_aload_n hC 0 rfl rfl dX1_drop_12 ?_
      refine V_get hC inX1 rfl 0 (by decide) wd_75 0 rfl rfl dX1_drop_13 ?_
      refine V_iload_n hC 3 rfl rfl dX1_drop_16 ?_
      refine V_iald hC _ rfl 1 rfl hw.1 dX1_drop_17 ?_
      have hw := hw.2
      refine V_iload_n hC 1 rfl rfl dX1_drop_18 ?_
      refine V_icmp_eq hC 31 (by decide) dX1_drop_19 (fun c2 => ?_) (fun c2 => ?_)
      · have hw := hw.1 c2
        refine V_iinc hC (x3 + 1) 3 [(3, .int (x3 + 1)), (0, .ref h0), (1, .int x1), (2, .int x2)] rfl (congrArg (fun z => x3 + z) (by decide : Int32.ofInt (1) = (1 : Int32))) (by decide) rfl dX1_drop_31 ?_
        refine V_goto hC 4 (by decide) dX1_drop_34 ?_
        refine V_cast [(0, .ref h0), (1, .int x1), (2, .int x2), (3, .int (x3 + 1))] [] [(h0, .inr (0, [.ref h1, .ref h2, .ref h3, .int n_count])), (h1, .inl (E.2.1, 4, .inl a_places)), (h2, .inl (E.2.1, 4, .inl a_cookies)), (h3, .inl (E.2.1, 4, .inl a_ticks))] [1, 2, 3, 0] [0, 1, 2, 3] rfl rfl rfl rfl ?_
        exact ih x1 x2 (x3 + 1) a_places a_cookies a_ticks n_count hw
      · have hw := hw.2 c2
        refine V_aload_n hC 0 rfl rfl dX1_drop_22 ?_
        refine V_iload_n hC 3 rfl rfl dX1_drop_23 ?_
        refine V_iload_n hC 2 rfl rfl dX1_drop_24 ?_
        refine V_callV hC (wr := []) 2 [.int x3, .int x2] [] (ct_X1_move l E h0 h1 h2 h3 a_places a_cookies a_ticks n_count x3 x2 _ hw) wd_286 wd_35 wd_283 wd_285 wd_2 (by decide +kernel) rfl ⟨Nat.le_of_ble_eq_true rfl, Nat.le_of_ble_eq_true rfl⟩ [0, 1, 2, 3] [] rfl rfl rfl rfl (by decide) rfl rfl rfl (Nat.le_of_ble_eq_true rfl) ⟨Nat.le_of_ble_eq_true rfl, Nat.le_of_ble_eq_true rfl⟩ dX1_drop_25 (fun v ws' hp => ?_)
        obtain ⟨g3, g4, g5, rfl, rfl, hw⟩ := hp
        refine V_cast [(0, .ref h0), (1, .int x1), (2, .int x2), (3, .int x3)] [] [(h0, .inr (0, [.ref h1, .ref h2, .ref h3, .int n_count])), (h1, .inl (E.2.1, 4, .inl g3)), (h2, .inl (E.2.1, 4, .inl g4)), (h3, .inl (E.2.1, 4, .inl g5))] [0, 1, 2, 3] [0, 1, 2, 3] rfl rfl rfl rfl ?_
        refine V_iinc hC (x2 + 1) 2 [(2, .int (x2 + 1)), (0, .ref h0), (1, .int x1), (3, .int x3)] rfl (congrArg (fun z => x2 + z) (by decide : Int32.ofInt (1) = (1 : Int32))) (by decide) rfl dX1_drop_28 ?_
        refine V_iinc hC (x3 + 1) 3 [(3, .int (x3 + 1)), (2, .int (x2 + 1)), (0, .ref h0), (1, .int x1)] rfl (congrArg (fun z => x3 + z) (by decide : Int32.ofInt (1) = (1 : Int32))) (by decide) rfl dX1_drop_31 ?_
        refine V_goto hC 4 (by decide) dX1_drop_34 ?_
        refine V_cast [(0, .ref h0), (1, .int x1), (2, .int (x2 + 1)), (3, .int (x3 + 1))] [] [(h0, .inr (0, [.ref h1, .ref h2, .ref h3, .int n_count])), (h1, .inl (E.2.1, 4, .inl g3)), (h2, .inl (E.2.1, 4, .inl g4)), (h3, .inl (E.2.1, 4, .inl g5))] [2, 3, 1, 0] [0, 1, 2, 3] rfl rfl rfl rfl ?_
        exact ih x1 (x2 + 1) (x3 + 1) g3 g4 g5 n_count hw
def wp_X1_drop (a_places : Nat → Int32) (a_cookies : Nat → Int32) (a_ticks : Nat → Int32) (n_count : Int32) (p1 : Int32) (K : (Nat → Int32) → (Nat → Int32) → (Nat → Int32) → Int32 → Prop) : Prop := (∃ n8 : Nat, wpl_X1_drop_4 K n8 p1 0 0 a_places a_cookies a_ticks n_count)
set_option maxRecDepth 100000 in
set_option maxHeartbeats 4000000 in
theorem ct_X1_drop (l : Launch) (E : EN) (h0 : Nat) (h1 : Nat) (h2 : Nat) (h3 : Nat) (a_places : Nat → Int32) (a_cookies : Nat → Int32) (a_ticks : Nat → Int32) (n_count : Int32) (p1 : Int32) (K : (Nat → Int32) → (Nat → Int32) → (Nat → Int32) → Int32 → Prop) (hw : wp_X1_drop a_places a_cookies a_ticks n_count p1 K) : Con l yX1_drop cX1_drop 4 (none) { frames := 1, cells := 0, slots := 0, locals := 22 } E [.ref h0, .int p1] [(h0, .inr (0, [.ref h1, .ref h2, .ref h3, .int n_count])), (h1, .inl (E.2.1, 4, .inl a_places)), (h2, .inl (E.2.1, 4, .inl a_cookies)), (h3, .inl (E.2.1, 4, .inl a_ticks))] (po_X1_drop E h0 h1 h2 h3 K) := by
  refine Con.mk (by decide +kernel) (Nat.le_of_ble_eq_true rfl) ?_
  intro p e s m below meth c A hC hr hin
  have hC : Cx p s m _ meth c E A cX1_drop 4 "CookieServer$Entries" := hC
  rw [wp_X1_drop] at hw
  refine V_cast [(0, .ref h0), (1, .int p1)] [] [(h0, .inr (0, [.ref h1, .ref h2, .ref h3, .int n_count])), (h1, .inl (E.2.1, 4, .inl a_places)), (h2, .inl (E.2.1, 4, .inl a_cookies)), (h3, .inl (E.2.1, 4, .inl a_ticks))] [0, 1] [0, 1, 2, 3] rfl rfl rfl rfl ?_
  refine V_iconst hC 0 dX1_drop_0 (by decide) ?_
  refine V_istore_n hC [(2, .int 0), (0, .ref h0), (1, .int p1)] rfl (by decide) rfl dX1_drop_1 ?_
  refine V_iconst hC 0 dX1_drop_2 (by decide) ?_
  refine V_istore_n hC [(3, .int 0), (2, .int 0), (0, .ref h0), (1, .int p1)] rfl (by decide) rfl dX1_drop_3 ?_
  refine V_cast [(0, .ref h0), (1, .int p1), (2, .int 0), (3, .int 0)] [] [(h0, .inr (0, [.ref h1, .ref h2, .ref h3, .int n_count])), (h1, .inl (E.2.1, 4, .inl a_places)), (h2, .inl (E.2.1, 4, .inl a_cookies)), (h3, .inl (E.2.1, 4, .inl a_ticks))] [2, 3, 1, 0] [0, 1, 2, 3] rfl rfl rfl rfl ?_
  obtain ⟨n8, hw⟩ := hw
  exact bl_X1_drop_4 hC hr h0 h1 h2 h3 K n8 p1 0 0 a_places a_cookies a_ticks n_count hw
abbrev po_X1_expire (E : EN) (h0 : Nat) (h1 : Nat) (h2 : Nat) (h3 : Nat) (K : (Nat → Int32) → (Nat → Int32) → (Nat → Int32) → Int32 → Prop) : Option Value → va_W → Prop := fun v ws' => ∃ (a_places : Nat → Int32) (a_cookies : Nat → Int32) (a_ticks : Nat → Int32) (n_count : Int32), v = none ∧ ws' = [(h0, .inr (0, [.ref h1, .ref h2, .ref h3, .int n_count])), (h1, .inl (E.2.1, 4, .inl a_places)), (h2, .inl (E.2.1, 4, .inl a_cookies)), (h3, .inl (E.2.1, 4, .inl a_ticks))] ∧ K a_places a_cookies a_ticks n_count
def wpl_X1_expire_4 (K : (Nat → Int32) → (Nat → Int32) → (Nat → Int32) → Int32 → Prop) : Nat → Int32 → Int32 → Int32 → (Nat → Int32) → (Nat → Int32) → (Nat → Int32) → Int32 → Prop
  | 0, _, _, _, _, _, _, _ => False
  | n9 + 1, x1, x2, x3, a_places, a_cookies, a_ticks, n_count => ((n_count ≤ x3 → K a_places a_cookies a_ticks x2) ∧ (¬ (n_count ≤ x3) → (vp_in x3 4 ∧ ((20 ≤ (x1 - (a_ticks (Int32.toNatClampNeg x3))) → wpl_X1_expire_4 K n9 x1 x2 (x3 + 1) a_places a_cookies a_ticks n_count) ∧ (¬ (20 ≤ (x1 - (a_ticks (Int32.toNatClampNeg x3)))) → (wp_X1_move a_places a_cookies a_ticks n_count x3 x2 (fun (g3 : Nat → Int32) (g4 : Nat → Int32) (g5 : Nat → Int32) => wpl_X1_expire_4 K n9 x1 (x2 + 1) (x3 + 1) g3 g4 g5 n_count)))))))
set_option maxRecDepth 100000 in
set_option maxHeartbeats 4000000 in
theorem bl_X1_expire_4 {p : Program} {l : Launch} {e : Env} {s : State} {m : MethodId} {args : Array Value} {below : List Frame} {meth : Method} {c : Code} {E : EN} {A : Nat → Prop} (hC : Cx p s m args meth c E A cX1_expire 4 "CookieServer$Entries") (hr : meth.sig.returnType = none) (h0 : Nat) (h1 : Nat) (h2 : Nat) (h3 : Nat) (K : (Nat → Int32) → (Nat → Int32) → (Nat → Int32) → Int32 → Prop) : ∀ (n8 : Nat) (x1 : Int32) (x2 : Int32) (x3 : Int32) (a_places : Nat → Int32) (a_cookies : Nat → Int32) (a_ticks : Nat → Int32) (n_count : Int32), wpl_X1_expire_4 K n8 x1 x2 x3 a_places a_cookies a_ticks n_count → V p l e { frames := 1, cells := 0, slots := 0, locals := 22 } s m args below meth c E A 4 0 0 (MQ below (QP E (po_X1_expire E h0 h1 h2 h3 K) A) args s 0 0 A) 4 [(0, .ref h0), (1, .int x1), (2, .int x2), (3, .int x3)] [] [(h0, .inr (0, [.ref h1, .ref h2, .ref h3, .int n_count])), (h1, .inl (E.2.1, 4, .inl a_places)), (h2, .inl (E.2.1, 4, .inl a_cookies)), (h3, .inl (E.2.1, 4, .inl a_ticks))] := by
  intro n8
  induction n8 with
  | zero => intro x1 x2 x3 a_places a_cookies a_ticks n_count hw; rw [wpl_X1_expire_4] at hw; exact hw.elim
  | succ n9 ih =>
    intro x1 x2 x3 a_places a_cookies a_ticks n_count hw
    rw [wpl_X1_expire_4] at hw
    refine V_iload_n hC 3 rfl rfl dX1_expire_4 ?_
    refine V_aload_n hC 0 rfl rfl dX1_expire_5 ?_
    refine V_get hC inX1 rfl 3 (by decide) wd_78 0 rfl rfl dX1_expire_6 ?_
    refine V_icmp_ge hC 40 (by decide) dX1_expire_9 (fun c1 => ?_) (fun c1 => ?_)
    · have hw := hw.1 c1
      refine V_aload_n hC 0 rfl rfl dX1_expire_40 ?_
      refine V_iload_n hC 2 rfl rfl dX1_expire_41 ?_
      refine V_put hC [(h0, .inr (0, [.ref h1, .ref h2, .ref h3, .int x2])), (h1, .inl (E.2.1, 4, .inl a_places)), (h2, .inl (E.2.1, 4, .inl a_cookies)), (h3, .inl (E.2.1, 4, .inl a_ticks))] inX1 tyX1_ok nmX1 rfl 3 (by decide) wd_78 rfl (ty := .int) (by decide +kernel) rfl rfl 0 rfl (Nat.le_of_ble_eq_true rfl) rfl dX1_expire_42 ?_
      exact V_vret hC hr ⟨a_places, a_cookies, a_ticks, x2, rfl, rfl, hw⟩ dX1_expire_45
    · have hw := hw.2 c1
      refine V_iload_n hC 1 rfl rfl dX1_expire_12 ?_
      refine V_aload_n hC 0 rfl rfl dX1_expire_13 ?_
      refine V_get hC inX1 rfl 2 (by decide) wd_77 0 rfl rfl dX1_expire_14 ?_
      refine V_iload_n hC 3 rfl rfl dX1_expire_17 ?_
      refine V_iald hC _ rfl 3 rfl hw.1 dX1_expire_18 ?_
      have hw := hw.2
      refine V_isub hC dX1_expire_19 ?_
      refine V_bipush hC 20 dX1_expire_20 (by decide) ?_
      refine V_icmp_ge hC 34 (by decide) dX1_expire_22 (fun c2 => ?_) (fun c2 => ?_)
      · have hw := hw.1 c2
        refine V_iinc hC (x3 + 1) 3 [(3, .int (x3 + 1)), (0, .ref h0), (1, .int x1), (2, .int x2)] rfl (congrArg (fun z => x3 + z) (by decide : Int32.ofInt (1) = (1 : Int32))) (by decide) rfl dX1_expire_34 ?_
        refine V_goto hC 4 (by decide) dX1_expire_37 ?_
        refine V_cast [(0, .ref h0), (1, .int x1), (2, .int x2), (3, .int (x3 + 1))] [] [(h0, .inr (0, [.ref h1, .ref h2, .ref h3, .int n_count])), (h1, .inl (E.2.1, 4, .inl a_places)), (h2, .inl (E.2.1, 4, .inl a_cookies)), (h3, .inl (E.2.1, 4, .inl a_ticks))] [1, 2, 3, 0] [0, 1, 2, 3] rfl rfl rfl rfl ?_
        exact ih x1 x2 (x3 + 1) a_places a_cookies a_ticks n_count hw
      · have hw := hw.2 c2
        refine V_aload_n hC 0 rfl rfl dX1_expire_25 ?_
        refine V_iload_n hC 3 rfl rfl dX1_expire_26 ?_
        refine V_iload_n hC 2 rfl rfl dX1_expire_27 ?_
        refine V_callV hC (wr := []) 2 [.int x3, .int x2] [] (ct_X1_move l E h0 h1 h2 h3 a_places a_cookies a_ticks n_count x3 x2 _ hw) wd_286 wd_35 wd_283 wd_285 wd_2 (by decide +kernel) rfl ⟨Nat.le_of_ble_eq_true rfl, Nat.le_of_ble_eq_true rfl⟩ [0, 1, 2, 3] [] rfl rfl rfl rfl (by decide) rfl rfl rfl (Nat.le_of_ble_eq_true rfl) ⟨Nat.le_of_ble_eq_true rfl, Nat.le_of_ble_eq_true rfl⟩ dX1_expire_28 (fun v ws' hp => ?_)
        obtain ⟨g3, g4, g5, rfl, rfl, hw⟩ := hp
        refine V_cast [(0, .ref h0), (1, .int x1), (2, .int x2), (3, .int x3)] [] [(h0, .inr (0, [.ref h1, .ref h2, .ref h3, .int n_count])), (h1, .inl (E.2.1, 4, .inl g3)), (h2, .inl (E.2.1, 4, .inl g4)), (h3, .inl (E.2.1, 4, .inl g5))] [0, 1, 2, 3] [0, 1, 2, 3] rfl rfl rfl rfl ?_
        refine V_iinc hC (x2 + 1) 2 [(2, .int (x2 + 1)), (0, .ref h0), (1, .int x1), (3, .int x3)] rfl (congrArg (fun z => x2 + z) (by decide : Int32.ofInt (1) = (1 : Int32))) (by decide) rfl dX1_expire_31 ?_
        refine V_iinc hC (x3 + 1) 3 [(3, .int (x3 + 1)), (2, .int (x2 + 1)), (0, .ref h0), (1, .int x1)] rfl (congrArg (fun z => x3 + z) (by decide : Int32.ofInt (1) = (1 : Int32))) (by decide) rfl dX1_expire_34 ?_
        refine V_goto hC 4 (by decide) dX1_expire_37 ?_
        refine V_cast [(0, .ref h0), (1, .int x1), (2, .int (x2 + 1)), (3, .int (x3 + 1))] [] [(h0, .inr (0, [.ref h1, .ref h2, .ref h3, .int n_count])), (h1, .inl (E.2.1, 4, .inl g3)), (h2, .inl (E.2.1, 4, .inl g4)), (h3, .inl (E.2.1, 4, .inl g5))] [2, 3, 1, 0] [0, 1, 2, 3] rfl rfl rfl rfl ?_
        exact ih x1 (x2 + 1) (x3 + 1) g3 g4 g5 n_count hw
def wp_X1_expire (a_places : Nat → Int32) (a_cookies : Nat → Int32) (a_ticks : Nat → Int32) (n_count : Int32) (p1 : Int32) (K : (Nat → Int32) → (Nat → Int32) → (Nat → Int32) → Int32 → Prop) : Prop := (∃ n8 : Nat, wpl_X1_expire_4 K n8 p1 0 0 a_places a_cookies a_ticks n_count)
set_option maxRecDepth 100000 in
set_option maxHeartbeats 4000000 in
theorem ct_X1_expire (l : Launch) (E : EN) (h0 : Nat) (h1 : Nat) (h2 : Nat) (h3 : Nat) (a_places : Nat → Int32) (a_cookies : Nat → Int32) (a_ticks : Nat → Int32) (n_count : Int32) (p1 : Int32) (K : (Nat → Int32) → (Nat → Int32) → (Nat → Int32) → Int32 → Prop) (hw : wp_X1_expire a_places a_cookies a_ticks n_count p1 K) : Con l yX1_expire cX1_expire 4 (none) { frames := 1, cells := 0, slots := 0, locals := 22 } E [.ref h0, .int p1] [(h0, .inr (0, [.ref h1, .ref h2, .ref h3, .int n_count])), (h1, .inl (E.2.1, 4, .inl a_places)), (h2, .inl (E.2.1, 4, .inl a_cookies)), (h3, .inl (E.2.1, 4, .inl a_ticks))] (po_X1_expire E h0 h1 h2 h3 K) := by
  refine Con.mk (by decide +kernel) (Nat.le_of_ble_eq_true rfl) ?_
  intro p e s m below meth c A hC hr hin
  have hC : Cx p s m _ meth c E A cX1_expire 4 "CookieServer$Entries" := hC
  rw [wp_X1_expire] at hw
  refine V_cast [(0, .ref h0), (1, .int p1)] [] [(h0, .inr (0, [.ref h1, .ref h2, .ref h3, .int n_count])), (h1, .inl (E.2.1, 4, .inl a_places)), (h2, .inl (E.2.1, 4, .inl a_cookies)), (h3, .inl (E.2.1, 4, .inl a_ticks))] [0, 1] [0, 1, 2, 3] rfl rfl rfl rfl ?_
  refine V_iconst hC 0 dX1_expire_0 (by decide) ?_
  refine V_istore_n hC [(2, .int 0), (0, .ref h0), (1, .int p1)] rfl (by decide) rfl dX1_expire_1 ?_
  refine V_iconst hC 0 dX1_expire_2 (by decide) ?_
  refine V_istore_n hC [(3, .int 0), (2, .int 0), (0, .ref h0), (1, .int p1)] rfl (by decide) rfl dX1_expire_3 ?_
  refine V_cast [(0, .ref h0), (1, .int p1), (2, .int 0), (3, .int 0)] [] [(h0, .inr (0, [.ref h1, .ref h2, .ref h3, .int n_count])), (h1, .inl (E.2.1, 4, .inl a_places)), (h2, .inl (E.2.1, 4, .inl a_cookies)), (h3, .inl (E.2.1, 4, .inl a_ticks))] [2, 3, 1, 0] [0, 1, 2, 3] rfl rfl rfl rfl ?_
  obtain ⟨n8, hw⟩ := hw
  exact bl_X1_expire_4 hC hr h0 h1 h2 h3 K n8 p1 0 0 a_places a_cookies a_ticks n_count hw
abbrev po_X1_mixInto (E : EN) (h0 : Nat) (h1 : Nat) (h2 : Nat) (h3 : Nat) (a_places : Nat → Int32) (a_cookies : Nat → Int32) (a_ticks : Nat → Int32) (n_count : Int32) (K : Int64 → Prop) : Option Value → va_W → Prop := fun v ws' => ∃ (r0 : Int64), v = some (.long r0) ∧ ws' = [(h0, .inr (0, [.ref h1, .ref h2, .ref h3, .int n_count])), (h1, .inl (E.2.1, 4, .inl a_places)), (h2, .inl (E.2.1, 4, .inl a_cookies)), (h3, .inl (E.2.1, 4, .inl a_ticks))] ∧ K r0
def wpl_X1_mixInto_14 (a_places : Nat → Int32) (a_cookies : Nat → Int32) (a_ticks : Nat → Int32) (n_count : Int32) (K : Int64 → Prop) : Nat → Int64 → Int32 → Int64 → Int32 → Prop
  | 0, _, _, _, _ => False
  | n9 + 1, x1, x3, x4, x6 => ((n_count ≤ x6 → K x4) ∧ (¬ (n_count ≤ x6) → (vp_in x6 4 ∧ (wp_X8_mix x4 (Int32.toInt64 ((a_places (Int32.toNatClampNeg x6)) / 8)) (fun (r3 : Int64) => (vp_in x6 4 ∧ (wp_X8_mix r3 (Int32.toInt64 (jrem (a_places (Int32.toNatClampNeg x6)) 8)) (fun (r4 : Int64) => (vp_in x6 4 ∧ (wp_X8_mix r4 (Int32.toInt64 (a_cookies (Int32.toNatClampNeg x6))) (fun (r5 : Int64) => (vp_in x6 4 ∧ (wp_X8_mix r5 (Int32.toInt64 (x3 - (a_ticks (Int32.toNatClampNeg x6)))) (fun (r6 : Int64) => wpl_X1_mixInto_14 a_places a_cookies a_ticks n_count K n9 x1 x3 r6 (x6 + 1)))))))))))))))
set_option maxRecDepth 100000 in
set_option maxHeartbeats 4000000 in
theorem bl_X1_mixInto_14 {p : Program} {l : Launch} {e : Env} {s : State} {m : MethodId} {args : Array Value} {below : List Frame} {meth : Method} {c : Code} {E : EN} {A : Nat → Prop} (hC : Cx p s m args meth c E A cX1_mixInto 7 "CookieServer$Entries") (hr : meth.sig.returnType = some .long) (h0 : Nat) (h1 : Nat) (h2 : Nat) (h3 : Nat) (a_places : Nat → Int32) (a_cookies : Nat → Int32) (a_ticks : Nat → Int32) (n_count : Int32) (K : Int64 → Prop) : ∀ (n8 : Nat) (x1 : Int64) (x3 : Int32) (x4 : Int64) (x6 : Int32), wpl_X1_mixInto_14 a_places a_cookies a_ticks n_count K n8 x1 x3 x4 x6 → V p l e { frames := 1, cells := 0, slots := 0, locals := 23 } s m args below meth c E A 7 0 0 (MQ below (QP E (po_X1_mixInto E h0 h1 h2 h3 a_places a_cookies a_ticks n_count K) A) args s 0 0 A) 14 [(0, .ref h0), (1, .long x1), (3, .int x3), (4, .long x4), (6, .int x6)] [] [(h0, .inr (0, [.ref h1, .ref h2, .ref h3, .int n_count])), (h1, .inl (E.2.1, 4, .inl a_places)), (h2, .inl (E.2.1, 4, .inl a_cookies)), (h3, .inl (E.2.1, 4, .inl a_ticks))] := by
  intro n8
  induction n8 with
  | zero => intro x1 x3 x4 x6 hw; rw [wpl_X1_mixInto_14] at hw; exact hw.elim
  | succ n9 ih =>
    intro x1 x3 x4 x6 hw
    rw [wpl_X1_mixInto_14] at hw
    refine V_iload hC 4 rfl dX1_mixInto_14 ?_
    refine V_aload_n hC 0 rfl rfl dX1_mixInto_16 ?_
    refine V_get hC inX1 rfl 3 (by decide) wd_78 0 rfl rfl dX1_mixInto_17 ?_
    refine V_icmp_ge hC 97 (by decide) dX1_mixInto_20 (fun c2 => ?_) (fun c2 => ?_)
    · have hw := hw.1 c2
      refine V_lload hC 3 rfl dX1_mixInto_97 ?_
      exact V_lret hC hr ⟨x4, rfl, rfl, hw⟩ dX1_mixInto_99
    · have hw := hw.2 c2
      refine V_lload hC 3 rfl dX1_mixInto_23 ?_
      refine V_aload_n hC 0 rfl rfl dX1_mixInto_25 ?_
      refine V_get hC inX1 rfl 0 (by decide) wd_75 0 rfl rfl dX1_mixInto_26 ?_
      refine V_iload hC 4 rfl dX1_mixInto_29 ?_
      refine V_iald hC _ rfl 1 rfl hw.1 dX1_mixInto_31 ?_
      have hw := hw.2
      refine V_bipush hC 8 dX1_mixInto_32 (by decide) ?_
      refine V_idiv hC (by decide) dX1_mixInto_34 ?_
      refine V_i2l hC dX1_mixInto_35 ?_
      refine V_callSN hC (wr := [(h0, .inr (0, [.ref h1, .ref h2, .ref h3, .int n_count])), (h1, .inl (E.2.1, 4, .inl a_places)), (h2, .inl (E.2.1, 4, .inl a_cookies)), (h3, .inl (E.2.1, 4, .inl a_ticks))]) 2 [.long x4, .long (Int32.toInt64 ((a_places (Int32.toNatClampNeg x6)) / 8))] [] (ct_X8_mix l E x4 (Int32.toInt64 ((a_places (Int32.toNatClampNeg x6)) / 8)) _ hw) wd_577 wd_32 wd_589 wd_576 (by decide +kernel) rfl ⟨Nat.le_of_ble_eq_true rfl, Nat.le_of_ble_eq_true rfl⟩ [] [0, 1, 2, 3] rfl rfl rfl rfl (by decide) rfl (Nat.le_of_ble_eq_true rfl) ⟨Nat.le_of_ble_eq_true rfl, Nat.le_of_ble_eq_true rfl⟩ dX1_mixInto_36 (fun v ws' hp => ?_)
      obtain ⟨r3, rfl, rfl, hw⟩ := hp
      refine V_cast [(0, .ref h0), (1, .long x1), (3, .int x3), (4, .long x4), (6, .int x6)] [.long r3] [(h0, .inr (0, [.ref h1, .ref h2, .ref h3, .int n_count])), (h1, .inl (E.2.1, 4, .inl a_places)), (h2, .inl (E.2.1, 4, .inl a_cookies)), (h3, .inl (E.2.1, 4, .inl a_ticks))] [0, 1, 2, 3, 4] [0, 1, 2, 3] rfl rfl rfl rfl ?_
      refine V_lstore hC [(4, .long r3), (0, .ref h0), (1, .long x1), (3, .int x3), (6, .int x6)] (by decide) rfl dX1_mixInto_39 ?_
      refine V_lload hC 0 rfl dX1_mixInto_41 ?_
      refine V_aload_n hC 1 rfl rfl dX1_mixInto_43 ?_
      refine V_get hC inX1 rfl 0 (by decide) wd_75 0 rfl rfl dX1_mixInto_44 ?_
      refine V_iload hC 4 rfl dX1_mixInto_47 ?_
      refine V_iald hC _ rfl 1 rfl hw.1 dX1_mixInto_49 ?_
      have hw := hw.2
      refine V_bipush hC 8 dX1_mixInto_50 (by decide) ?_
      refine V_irem hC (by decide) dX1_mixInto_52 ?_
      refine V_i2l hC dX1_mixInto_53 ?_
      refine V_callSN hC (wr := [(h0, .inr (0, [.ref h1, .ref h2, .ref h3, .int n_count])), (h1, .inl (E.2.1, 4, .inl a_places)), (h2, .inl (E.2.1, 4, .inl a_cookies)), (h3, .inl (E.2.1, 4, .inl a_ticks))]) 2 [.long r3, .long (Int32.toInt64 (jrem (a_places (Int32.toNatClampNeg x6)) 8))] [] (ct_X8_mix l E r3 (Int32.toInt64 (jrem (a_places (Int32.toNatClampNeg x6)) 8)) _ hw) wd_577 wd_32 wd_589 wd_576 (by decide +kernel) rfl ⟨Nat.le_of_ble_eq_true rfl, Nat.le_of_ble_eq_true rfl⟩ [] [0, 1, 2, 3] rfl rfl rfl rfl (by decide) rfl (Nat.le_of_ble_eq_true rfl) ⟨Nat.le_of_ble_eq_true rfl, Nat.le_of_ble_eq_true rfl⟩ dX1_mixInto_54 (fun v ws' hp => ?_)
      obtain ⟨r4, rfl, rfl, hw⟩ := hp
      refine V_cast [(4, .long r3), (0, .ref h0), (1, .long x1), (3, .int x3), (6, .int x6)] [.long r4] [(h0, .inr (0, [.ref h1, .ref h2, .ref h3, .int n_count])), (h1, .inl (E.2.1, 4, .inl a_places)), (h2, .inl (E.2.1, 4, .inl a_cookies)), (h3, .inl (E.2.1, 4, .inl a_ticks))] [0, 1, 2, 3, 4] [0, 1, 2, 3] rfl rfl rfl rfl ?_
      refine V_lstore hC [(4, .long r4), (0, .ref h0), (1, .long x1), (3, .int x3), (6, .int x6)] (by decide) rfl dX1_mixInto_57 ?_
      refine V_lload hC 0 rfl dX1_mixInto_59 ?_
      refine V_aload_n hC 1 rfl rfl dX1_mixInto_61 ?_
      refine V_get hC inX1 rfl 1 (by decide) wd_76 0 rfl rfl dX1_mixInto_62 ?_
      refine V_iload hC 4 rfl dX1_mixInto_65 ?_
      refine V_iald hC _ rfl 2 rfl hw.1 dX1_mixInto_67 ?_
      have hw := hw.2
      refine V_i2l hC dX1_mixInto_68 ?_
      refine V_callSN hC (wr := [(h0, .inr (0, [.ref h1, .ref h2, .ref h3, .int n_count])), (h1, .inl (E.2.1, 4, .inl a_places)), (h2, .inl (E.2.1, 4, .inl a_cookies)), (h3, .inl (E.2.1, 4, .inl a_ticks))]) 2 [.long r4, .long (Int32.toInt64 (a_cookies (Int32.toNatClampNeg x6)))] [] (ct_X8_mix l E r4 (Int32.toInt64 (a_cookies (Int32.toNatClampNeg x6))) _ hw) wd_577 wd_32 wd_589 wd_576 (by decide +kernel) rfl ⟨Nat.le_of_ble_eq_true rfl, Nat.le_of_ble_eq_true rfl⟩ [] [0, 1, 2, 3] rfl rfl rfl rfl (by decide) rfl (Nat.le_of_ble_eq_true rfl) ⟨Nat.le_of_ble_eq_true rfl, Nat.le_of_ble_eq_true rfl⟩ dX1_mixInto_69 (fun v ws' hp => ?_)
      obtain ⟨r5, rfl, rfl, hw⟩ := hp
      refine V_cast [(4, .long r4), (0, .ref h0), (1, .long x1), (3, .int x3), (6, .int x6)] [.long r5] [(h0, .inr (0, [.ref h1, .ref h2, .ref h3, .int n_count])), (h1, .inl (E.2.1, 4, .inl a_places)), (h2, .inl (E.2.1, 4, .inl a_cookies)), (h3, .inl (E.2.1, 4, .inl a_ticks))] [0, 1, 2, 3, 4] [0, 1, 2, 3] rfl rfl rfl rfl ?_
      refine V_lstore hC [(4, .long r5), (0, .ref h0), (1, .long x1), (3, .int x3), (6, .int x6)] (by decide) rfl dX1_mixInto_72 ?_
      refine V_lload hC 0 rfl dX1_mixInto_74 ?_
      refine V_iload_n hC 3 rfl rfl dX1_mixInto_76 ?_
      refine V_aload_n hC 1 rfl rfl dX1_mixInto_77 ?_
      refine V_get hC inX1 rfl 2 (by decide) wd_77 0 rfl rfl dX1_mixInto_78 ?_
      refine V_iload hC 4 rfl dX1_mixInto_81 ?_
      refine V_iald hC _ rfl 3 rfl hw.1 dX1_mixInto_83 ?_
      have hw := hw.2
      refine V_isub hC dX1_mixInto_84 ?_
      refine V_i2l hC dX1_mixInto_85 ?_
      refine V_callSN hC (wr := [(h0, .inr (0, [.ref h1, .ref h2, .ref h3, .int n_count])), (h1, .inl (E.2.1, 4, .inl a_places)), (h2, .inl (E.2.1, 4, .inl a_cookies)), (h3, .inl (E.2.1, 4, .inl a_ticks))]) 2 [.long r5, .long (Int32.toInt64 (x3 - (a_ticks (Int32.toNatClampNeg x6))))] [] (ct_X8_mix l E r5 (Int32.toInt64 (x3 - (a_ticks (Int32.toNatClampNeg x6)))) _ hw) wd_577 wd_32 wd_589 wd_576 (by decide +kernel) rfl ⟨Nat.le_of_ble_eq_true rfl, Nat.le_of_ble_eq_true rfl⟩ [] [0, 1, 2, 3] rfl rfl rfl rfl (by decide) rfl (Nat.le_of_ble_eq_true rfl) ⟨Nat.le_of_ble_eq_true rfl, Nat.le_of_ble_eq_true rfl⟩ dX1_mixInto_86 (fun v ws' hp => ?_)
      obtain ⟨r6, rfl, rfl, hw⟩ := hp
      refine V_cast [(4, .long r5), (0, .ref h0), (1, .long x1), (3, .int x3), (6, .int x6)] [.long r6] [(h0, .inr (0, [.ref h1, .ref h2, .ref h3, .int n_count])), (h1, .inl (E.2.1, 4, .inl a_places)), (h2, .inl (E.2.1, 4, .inl a_cookies)), (h3, .inl (E.2.1, 4, .inl a_ticks))] [0, 1, 2, 3, 4] [0, 1, 2, 3] rfl rfl rfl rfl ?_
      refine V_lstore hC [(4, .long r6), (0, .ref h0), (1, .long x1), (3, .int x3), (6, .int x6)] (by decide) rfl dX1_mixInto_89 ?_
      refine V_iinc hC (x6 + 1) 4 [(6, .int (x6 + 1)), (4, .long r6), (0, .ref h0), (1, .long x1), (3, .int x3)] rfl (congrArg (fun z => x6 + z) (by decide : Int32.ofInt (1) = (1 : Int32))) (by decide) rfl dX1_mixInto_91 ?_
      refine V_goto hC 14 (by decide) dX1_mixInto_94 ?_
      refine V_cast [(0, .ref h0), (1, .long x1), (3, .int x3), (4, .long r6), (6, .int (x6 + 1))] [] [(h0, .inr (0, [.ref h1, .ref h2, .ref h3, .int n_count])), (h1, .inl (E.2.1, 4, .inl a_places)), (h2, .inl (E.2.1, 4, .inl a_cookies)), (h3, .inl (E.2.1, 4, .inl a_ticks))] [2, 3, 4, 1, 0] [0, 1, 2, 3] rfl rfl rfl rfl ?_
      exact ih x1 x3 r6 (x6 + 1) hw
def wp_X1_mixInto (a_places : Nat → Int32) (a_cookies : Nat → Int32) (a_ticks : Nat → Int32) (n_count : Int32) (p1 : Int64) (p2 : Int32) (K : Int64 → Prop) : Prop := (wp_X8_mix p1 (Int32.toInt64 n_count) (fun (r1 : Int64) => (∃ n8 : Nat, wpl_X1_mixInto_14 a_places a_cookies a_ticks n_count K n8 p1 p2 r1 0)))
set_option maxRecDepth 100000 in
set_option maxHeartbeats 4000000 in
theorem ct_X1_mixInto (l : Launch) (E : EN) (h0 : Nat) (h1 : Nat) (h2 : Nat) (h3 : Nat) (a_places : Nat → Int32) (a_cookies : Nat → Int32) (a_ticks : Nat → Int32) (n_count : Int32) (p1 : Int64) (p2 : Int32) (K : Int64 → Prop) (hw : wp_X1_mixInto a_places a_cookies a_ticks n_count p1 p2 K) : Con l yX1_mixInto cX1_mixInto 7 (some .long) { frames := 1, cells := 0, slots := 0, locals := 23 } E [.ref h0, .long p1, .int p2] [(h0, .inr (0, [.ref h1, .ref h2, .ref h3, .int n_count])), (h1, .inl (E.2.1, 4, .inl a_places)), (h2, .inl (E.2.1, 4, .inl a_cookies)), (h3, .inl (E.2.1, 4, .inl a_ticks))] (po_X1_mixInto E h0 h1 h2 h3 a_places a_cookies a_ticks n_count K) := by
  refine Con.mk (by decide +kernel) (Nat.le_of_ble_eq_true rfl) ?_
  intro p e s m below meth c A hC hr hin
  have hC : Cx p s m _ meth c E A cX1_mixInto 7 "CookieServer$Entries" := hC
  rw [wp_X1_mixInto] at hw
  refine V_cast [(0, .ref h0), (1, .long p1), (3, .int p2)] [] [(h0, .inr (0, [.ref h1, .ref h2, .ref h3, .int n_count])), (h1, .inl (E.2.1, 4, .inl a_places)), (h2, .inl (E.2.1, 4, .inl a_cookies)), (h3, .inl (E.2.1, 4, .inl a_ticks))] [0, 1, 2] [0, 1, 2, 3] rfl rfl rfl rfl ?_
  refine V_lload_n hC 1 rfl rfl dX1_mixInto_0 ?_
  refine V_aload_n hC 0 rfl rfl dX1_mixInto_1 ?_
  refine V_get hC inX1 rfl 3 (by decide) wd_78 0 rfl rfl dX1_mixInto_2 ?_
  refine V_i2l hC dX1_mixInto_5 ?_
  refine V_callSN hC (wr := [(h0, .inr (0, [.ref h1, .ref h2, .ref h3, .int n_count])), (h1, .inl (E.2.1, 4, .inl a_places)), (h2, .inl (E.2.1, 4, .inl a_cookies)), (h3, .inl (E.2.1, 4, .inl a_ticks))]) 2 [.long p1, .long (Int32.toInt64 n_count)] [] (ct_X8_mix l E p1 (Int32.toInt64 n_count) _ hw) wd_577 wd_32 wd_589 wd_576 (by decide +kernel) rfl ⟨Nat.le_of_ble_eq_true rfl, Nat.le_of_ble_eq_true rfl⟩ [] [0, 1, 2, 3] rfl rfl rfl rfl (by decide) rfl (Nat.le_of_ble_eq_true rfl) ⟨Nat.le_of_ble_eq_true rfl, Nat.le_of_ble_eq_true rfl⟩ dX1_mixInto_6 (fun v ws' hp => ?_)
  obtain ⟨r1, rfl, rfl, hw⟩ := hp
  refine V_cast [(0, .ref h0), (1, .long p1), (3, .int p2)] [.long r1] [(h0, .inr (0, [.ref h1, .ref h2, .ref h3, .int n_count])), (h1, .inl (E.2.1, 4, .inl a_places)), (h2, .inl (E.2.1, 4, .inl a_cookies)), (h3, .inl (E.2.1, 4, .inl a_ticks))] [0, 1, 2] [0, 1, 2, 3] rfl rfl rfl rfl ?_
  refine V_lstore hC [(4, .long r1), (0, .ref h0), (1, .long p1), (3, .int p2)] (by decide) rfl dX1_mixInto_9 ?_
  refine V_iconst hC 0 dX1_mixInto_11 (by decide) ?_
  refine V_istore hC [(6, .int 0), (4, .long r1), (0, .ref h0), (1, .long p1), (3, .int p2)] (by decide) rfl dX1_mixInto_12 ?_
  refine V_cast [(0, .ref h0), (1, .long p1), (3, .int p2), (4, .long r1), (6, .int 0)] [] [(h0, .inr (0, [.ref h1, .ref h2, .ref h3, .int n_count])), (h1, .inl (E.2.1, 4, .inl a_places)), (h2, .inl (E.2.1, 4, .inl a_cookies)), (h3, .inl (E.2.1, 4, .inl a_ticks))] [2, 3, 4, 1, 0] [0, 1, 2, 3] rfl rfl rfl rfl ?_
  obtain ⟨n8, hw⟩ := hw
  exact bl_X1_mixInto_14 hC hr h0 h1 h2 h3 a_places a_cookies a_ticks n_count K n8 p1 p2 r1 0 hw
