abbrev po_X1_find (E : EN) (h0 : Nat) (h1 : Nat) (h2 : Nat) (h3 : Nat) (a_places : Nat → Int32) (a_cookies : Nat → Int32) (a_ticks : Nat → Int32) (n_count : Int32) (K : Int32 → Prop) : Option Value → va_W → Prop := fun v ws' => ∃ (r0 : Int32), v = some (.int r0) ∧ ws' = [(h0, .inr (0, [.ref h1, .ref h2, .ref h3, .int n_count])), (h1, .inl (E.2.1, 4, .inl a_places)), (h2, .inl (E.2.1, 4, .inl a_cookies)), (h3, .inl (E.2.1, 4, .inl a_ticks))] ∧ K r0
def wpl_X1_find_2 (a_places : Nat → Int32) (a_cookies : Nat → Int32) (a_ticks : Nat → Int32) (n_count : Int32) (K : Int32 → Prop) : Nat → Int32 → Int32 → Prop
  | 0, _, _ => False
  | n9 + 1, x1, x2 => ((n_count ≤ x2 → K (-1)) ∧ (¬ (n_count ≤ x2) → (vp_in x2 4 ∧ ((¬ (a_places (Int32.toNatClampNeg x2)) = x1 → wpl_X1_find_2 a_places a_cookies a_ticks n_count K n9 x1 (x2 + 1)) ∧ ((a_places (Int32.toNatClampNeg x2)) = x1 → K x2)))))
set_option maxRecDepth 100000 in
set_option maxHeartbeats 4000000 in
theorem bl_X1_find_2 {p : Program} {l : Launch} {e : Env} {s : State} {m : MethodId} {args : Array Value} {below : List Frame} {meth : Method} {c : Code} {E : EN} {A : Nat → Prop} (hC : Cx p s m args meth c E A cX1_find 3 "CookieServer$Entries") (hr : meth.sig.returnType = some .int) (h0 : Nat) (h1 : Nat) (h2 : Nat) (h3 : Nat) (a_places : Nat → Int32) (a_cookies : Nat → Int32) (a_ticks : Nat → Int32) (n_count : Int32) (K : Int32 → Prop) : ∀ (n8 : Nat) (x1 : Int32) (x2 : Int32), wpl_X1_find_2 a_places a_cookies a_ticks n_count K n8 x1 x2 → V p l e { frames := 0, cells := 0, slots := 0, locals := 0 } s m args below meth c E A 3 0 0 (MQ below (QP E (po_X1_find E h0 h1 h2 h3 a_places a_cookies a_ticks n_count K) A) args s 0 0 A) 2 [(0, .ref h0), (1, .int x1), (2, .int x2)] [] [(h0, .inr (0, [.ref h1, .ref h2, .ref h3, .int n_count])), (h1, .inl (E.2.1, 4, .inl a_places)), (h2, .inl (E.2.1, 4, .inl a_cookies)), (h3, .inl (E.2.1, 4, .inl a_ticks))] := by
  intro n8
  induction n8 with
  | zero => intro x1 x2 hw; rw [wpl_X1_find_2] at hw; exact hw.elim
  | succ n9 ih =>
    intro x1 x2 hw
    rw [wpl_X1_find_2] at hw
    refine V_iload_n hC 2 rfl rfl dX1_find_2 ?_
    refine V_aload_n hC 0 rfl rfl dX1_find_3 ?_
    refine V_get hC inX1 rfl 3 (by decide) wd_78 0 rfl rfl dX1_find_4 ?_
    refine V_icmp_ge hC 28 (by decide) dX1_find_7 (fun c1 => ?_) (fun c1 => ?_)
    · have hw := hw.1 c1
      refine V_iconst hC (-1) dX1_find_28 (by decide) ?_
      exact V_iret hC hr ⟨(-1), rfl, rfl, hw⟩ dX1_find_29
    · have hw := hw.2 c1
      refine V_aload_n hC 0 rfl rfl dX1_find_10 ?_
      refine V_get hC inX1 rfl 0 (by decide) wd_75 0 rfl rfl dX1_find_11 ?_
      refine V_iload_n hC 2 rfl rfl dX1_find_14 ?_
      refine V_iald hC _ rfl 1 rfl hw.1 dX1_find_15 ?_
      have hw := hw.2
      refine V_iload_n hC 1 rfl rfl dX1_find_16 ?_
      refine V_icmp_ne hC 22 (by decide) dX1_find_17 (fun c2 => ?_) (fun c2 => ?_)
      · have hw := hw.1 c2
        refine V_iinc hC (x2 + 1) 2 [(2, .int (x2 + 1)), (0, .ref h0), (1, .int x1)] rfl rfl (by decide) rfl dX1_find_22 ?_
        refine V_goto hC 2 (by decide) dX1_find_25 ?_
        refine V_cast [(0, .ref h0), (1, .int x1), (2, .int (x2 + 1))] [] [(h0, .inr (0, [.ref h1, .ref h2, .ref h3, .int n_count])), (h1, .inl (E.2.1, 4, .inl a_places)), (h2, .inl (E.2.1, 4, .inl a_cookies)), (h3, .inl (E.2.1, 4, .inl a_ticks))] [1, 2, 0] [0, 1, 2, 3] rfl rfl rfl rfl ?_
        exact ih x1 (x2 + 1) hw
      · have hw := hw.2 c2
        refine V_iload_n hC 2 rfl rfl dX1_find_20 ?_
        exact V_iret hC hr ⟨x2, rfl, rfl, hw⟩ dX1_find_21
def wp_X1_find (a_places : Nat → Int32) (a_cookies : Nat → Int32) (a_ticks : Nat → Int32) (n_count : Int32) (p1 : Int32) (K : Int32 → Prop) : Prop := (∃ n8 : Nat, wpl_X1_find_2 a_places a_cookies a_ticks n_count K n8 p1 0)
set_option maxRecDepth 100000 in
set_option maxHeartbeats 4000000 in
theorem ct_X1_find (l : Launch) (E : EN) (h0 : Nat) (h1 : Nat) (h2 : Nat) (h3 : Nat) (a_places : Nat → Int32) (a_cookies : Nat → Int32) (a_ticks : Nat → Int32) (n_count : Int32) (p1 : Int32) (K : Int32 → Prop) (hw : wp_X1_find a_places a_cookies a_ticks n_count p1 K) : Con l yX1_find cX1_find 3 (some .int) { frames := 0, cells := 0, slots := 0, locals := 0 } E [.ref h0, .int p1] [(h0, .inr (0, [.ref h1, .ref h2, .ref h3, .int n_count])), (h1, .inl (E.2.1, 4, .inl a_places)), (h2, .inl (E.2.1, 4, .inl a_cookies)), (h3, .inl (E.2.1, 4, .inl a_ticks))] (po_X1_find E h0 h1 h2 h3 a_places a_cookies a_ticks n_count K) := by
  refine Con.mk (by decide) (Nat.le_of_ble_eq_true rfl) ?_
  intro p e s m below meth c A hC hr hin
  have hC : Cx p s m _ meth c E A cX1_find 3 "CookieServer$Entries" := hC
  rw [wp_X1_find] at hw
  refine V_cast [(0, .ref h0), (1, .int p1)] [] [(h0, .inr (0, [.ref h1, .ref h2, .ref h3, .int n_count])), (h1, .inl (E.2.1, 4, .inl a_places)), (h2, .inl (E.2.1, 4, .inl a_cookies)), (h3, .inl (E.2.1, 4, .inl a_ticks))] [0, 1] [0, 1, 2, 3] rfl rfl rfl rfl ?_
  refine V_iconst hC 0 dX1_find_0 (by decide) ?_
  refine V_istore_n hC [(2, .int 0), (0, .ref h0), (1, .int p1)] rfl (by decide) rfl dX1_find_1 ?_
  refine V_cast [(0, .ref h0), (1, .int p1), (2, .int 0)] [] [(h0, .inr (0, [.ref h1, .ref h2, .ref h3, .int n_count])), (h1, .inl (E.2.1, 4, .inl a_places)), (h2, .inl (E.2.1, 4, .inl a_cookies)), (h3, .inl (E.2.1, 4, .inl a_ticks))] [1, 2, 0] [0, 1, 2, 3] rfl rfl rfl rfl ?_
  obtain ⟨n8, hw⟩ := hw
  exact bl_X1_find_2 hC hr h0 h1 h2 h3 a_places a_cookies a_ticks n_count K n8 p1 0 hw
abbrev po_X1_holds (E : EN) (h0 : Nat) (h1 : Nat) (h2 : Nat) (h3 : Nat) (a_places : Nat → Int32) (a_cookies : Nat → Int32) (a_ticks : Nat → Int32) (n_count : Int32) (K : Int32 → Prop) : Option Value → va_W → Prop := fun v ws' => ∃ (r0 : Int32), v = some (.int r0) ∧ ws' = [(h0, .inr (0, [.ref h1, .ref h2, .ref h3, .int n_count])), (h1, .inl (E.2.1, 4, .inl a_places)), (h2, .inl (E.2.1, 4, .inl a_cookies)), (h3, .inl (E.2.1, 4, .inl a_ticks))] ∧ K r0
def wp_X1_holds (a_places : Nat → Int32) (a_cookies : Nat → Int32) (a_ticks : Nat → Int32) (n_count : Int32) (p1 : Int32) (p2 : Int32) (K : Int32 → Prop) : Prop := (wp_X1_find a_places a_cookies a_ticks n_count p1 (fun (r1 : Int32) => ((r1 < 0 → K 0) ∧ (¬ (r1 < 0) → (vp_in r1 4 ∧ ((¬ (a_cookies (Int32.toNatClampNeg r1)) = p2 → K 0) ∧ ((a_cookies (Int32.toNatClampNeg r1)) = p2 → K 1)))))))
set_option maxRecDepth 100000 in
set_option maxHeartbeats 4000000 in
theorem ct_X1_holds (l : Launch) (E : EN) (h0 : Nat) (h1 : Nat) (h2 : Nat) (h3 : Nat) (a_places : Nat → Int32) (a_cookies : Nat → Int32) (a_ticks : Nat → Int32) (n_count : Int32) (p1 : Int32) (p2 : Int32) (K : Int32 → Prop) (hw : wp_X1_holds a_places a_cookies a_ticks n_count p1 p2 K) : Con l yX1_holds cX1_holds 4 (some .boolean) { frames := 1, cells := 0, slots := 0, locals := 22 } E [.ref h0, .int p1, .int p2] [(h0, .inr (0, [.ref h1, .ref h2, .ref h3, .int n_count])), (h1, .inl (E.2.1, 4, .inl a_places)), (h2, .inl (E.2.1, 4, .inl a_cookies)), (h3, .inl (E.2.1, 4, .inl a_ticks))] (po_X1_holds E h0 h1 h2 h3 a_places a_cookies a_ticks n_count K) := by
  refine Con.mk (by decide) (Nat.le_of_ble_eq_true rfl) ?_
  intro p e s m below meth c A hC hr hin
  have hC : Cx p s m _ meth c E A cX1_holds 4 "CookieServer$Entries" := hC
  rw [wp_X1_holds] at hw
  refine V_cast [(0, .ref h0), (1, .int p1), (2, .int p2)] [] [(h0, .inr (0, [.ref h1, .ref h2, .ref h3, .int n_count])), (h1, .inl (E.2.1, 4, .inl a_places)), (h2, .inl (E.2.1, 4, .inl a_cookies)), (h3, .inl (E.2.1, 4, .inl a_ticks))] [0, 1, 2] [0, 1, 2, 3] rfl rfl rfl rfl ?_
  refine V_aload_n hC 0 rfl rfl dX1_holds_0 ?_
  refine V_iload_n hC 1 rfl rfl dX1_holds_1 ?_
  refine V_callV hC (wr := []) 1 [.int p1] [] (ct_X1_find l E h0 h1 h2 h3 a_places a_cookies a_ticks n_count p1 _ hw) wd_357 wd_35 wd_354 wd_356 wd_3 (by decide +kernel) rfl ⟨Nat.le_of_ble_eq_true rfl, Nat.le_of_ble_eq_true rfl⟩ [0, 1, 2, 3] [] rfl rfl rfl rfl (by decide) rfl rfl rfl (Nat.le_of_ble_eq_true rfl) ⟨Nat.le_of_ble_eq_true rfl, Nat.le_of_ble_eq_true rfl⟩ dX1_holds_2 (fun v ws' hp => ?_)
  obtain ⟨r1, rfl, rfl, hw⟩ := hp
  refine V_cast [(0, .ref h0), (1, .int p1), (2, .int p2)] [.int r1] [(h0, .inr (0, [.ref h1, .ref h2, .ref h3, .int n_count])), (h1, .inl (E.2.1, 4, .inl a_places)), (h2, .inl (E.2.1, 4, .inl a_cookies)), (h3, .inl (E.2.1, 4, .inl a_ticks))] [0, 1, 2] [0, 1, 2, 3] rfl rfl rfl rfl ?_
  refine V_istore_n hC [(3, .int r1), (0, .ref h0), (1, .int p1), (2, .int p2)] rfl (by decide) rfl dX1_holds_5 ?_
  refine V_iload_n hC 0 rfl rfl dX1_holds_6 ?_
  refine V_if_lt hC 24 (by decide) dX1_holds_7 (fun c2 => ?_) (fun c2 => ?_)
  · have hw := hw.1 c2
    refine V_iconst hC 0 dX1_holds_24 (by decide) ?_
    exact V_zret hC hr rfl ⟨0, rfl, rfl, hw⟩ dX1_holds_25
  · have hw := hw.2 c2
    refine V_aload_n hC 1 rfl rfl dX1_holds_10 ?_
    refine V_get hC inX1 rfl 1 (by decide) wd_76 0 rfl rfl dX1_holds_11 ?_
    refine V_iload_n hC 0 rfl rfl dX1_holds_14 ?_
    refine V_iald hC _ rfl 2 rfl hw.1 dX1_holds_15 ?_
    have hw := hw.2
    refine V_iload_n hC 3 rfl rfl dX1_holds_16 ?_
    refine V_icmp_ne hC 24 (by decide) dX1_holds_17 (fun c3 => ?_) (fun c3 => ?_)
    · have hw := hw.1 c3
      refine V_iconst hC 0 dX1_holds_24 (by decide) ?_
      exact V_zret hC hr rfl ⟨0, rfl, rfl, hw⟩ dX1_holds_25
    · have hw := hw.2 c3
      refine V_iconst hC 1 dX1_holds_20 (by decide) ?_
      refine V_goto hC 25 (by decide) dX1_holds_21 ?_
      exact V_zret hC hr rfl ⟨1, rfl, rfl, hw⟩ dX1_holds_25
abbrev po_X1_ageOf (E : EN) (h0 : Nat) (h1 : Nat) (h2 : Nat) (h3 : Nat) (a_places : Nat → Int32) (a_cookies : Nat → Int32) (a_ticks : Nat → Int32) (n_count : Int32) (K : Int32 → Prop) : Option Value → va_W → Prop := fun v ws' => ∃ (r0 : Int32), v = some (.int r0) ∧ ws' = [(h0, .inr (0, [.ref h1, .ref h2, .ref h3, .int n_count])), (h1, .inl (E.2.1, 4, .inl a_places)), (h2, .inl (E.2.1, 4, .inl a_cookies)), (h3, .inl (E.2.1, 4, .inl a_ticks))] ∧ K r0
def wp_X1_ageOf (a_places : Nat → Int32) (a_cookies : Nat → Int32) (a_ticks : Nat → Int32) (n_count : Int32) (p1 : Int32) (p2 : Int32) (K : Int32 → Prop) : Prop := (wp_X1_find a_places a_cookies a_ticks n_count p1 (fun (r1 : Int32) => ((r1 < 0 → K (-1)) ∧ (¬ (r1 < 0) → (vp_in r1 4 ∧ K (p2 - (a_ticks (Int32.toNatClampNeg r1))))))))
set_option maxRecDepth 100000 in
set_option maxHeartbeats 4000000 in
theorem ct_X1_ageOf (l : Launch) (E : EN) (h0 : Nat) (h1 : Nat) (h2 : Nat) (h3 : Nat) (a_places : Nat → Int32) (a_cookies : Nat → Int32) (a_ticks : Nat → Int32) (n_count : Int32) (p1 : Int32) (p2 : Int32) (K : Int32 → Prop) (hw : wp_X1_ageOf a_places a_cookies a_ticks n_count p1 p2 K) : Con l yX1_ageOf cX1_ageOf 4 (some .int) { frames := 1, cells := 0, slots := 0, locals := 22 } E [.ref h0, .int p1, .int p2] [(h0, .inr (0, [.ref h1, .ref h2, .ref h3, .int n_count])), (h1, .inl (E.2.1, 4, .inl a_places)), (h2, .inl (E.2.1, 4, .inl a_cookies)), (h3, .inl (E.2.1, 4, .inl a_ticks))] (po_X1_ageOf E h0 h1 h2 h3 a_places a_cookies a_ticks n_count K) := by
  refine Con.mk (by decide) (Nat.le_of_ble_eq_true rfl) ?_
  intro p e s m below meth c A hC hr hin
  have hC : Cx p s m _ meth c E A cX1_ageOf 4 "CookieServer$Entries" := hC
  rw [wp_X1_ageOf] at hw
  refine V_cast [(0, .ref h0), (1, .int p1), (2, .int p2)] [] [(h0, .inr (0, [.ref h1, .ref h2, .ref h3, .int n_count])), (h1, .inl (E.2.1, 4, .inl a_places)), (h2, .inl (E.2.1, 4, .inl a_cookies)), (h3, .inl (E.2.1, 4, .inl a_ticks))] [0, 1, 2] [0, 1, 2, 3] rfl rfl rfl rfl ?_
  refine V_aload_n hC 0 rfl rfl dX1_ageOf_0 ?_
  refine V_iload_n hC 1 rfl rfl dX1_ageOf_1 ?_
  refine V_callV hC (wr := []) 1 [.int p1] [] (ct_X1_find l E h0 h1 h2 h3 a_places a_cookies a_ticks n_count p1 _ hw) wd_357 wd_35 wd_354 wd_356 wd_3 (by decide +kernel) rfl ⟨Nat.le_of_ble_eq_true rfl, Nat.le_of_ble_eq_true rfl⟩ [0, 1, 2, 3] [] rfl rfl rfl rfl (by decide) rfl rfl rfl (Nat.le_of_ble_eq_true rfl) ⟨Nat.le_of_ble_eq_true rfl, Nat.le_of_ble_eq_true rfl⟩ dX1_ageOf_2 (fun v ws' hp => ?_)
  obtain ⟨r1, rfl, rfl, hw⟩ := hp
  refine V_cast [(0, .ref h0), (1, .int p1), (2, .int p2)] [.int r1] [(h0, .inr (0, [.ref h1, .ref h2, .ref h3, .int n_count])), (h1, .inl (E.2.1, 4, .inl a_places)), (h2, .inl (E.2.1, 4, .inl a_cookies)), (h3, .inl (E.2.1, 4, .inl a_ticks))] [0, 1, 2] [0, 1, 2, 3] rfl rfl rfl rfl ?_
  refine V_istore_n hC [(3, .int r1), (0, .ref h0), (1, .int p1), (2, .int p2)] rfl (by decide) rfl dX1_ageOf_5 ?_
  refine V_iload_n hC 0 rfl rfl dX1_ageOf_6 ?_
  refine V_if_lt hC 21 (by decide) dX1_ageOf_7 (fun c2 => ?_) (fun c2 => ?_)
  · have hw := hw.1 c2
    refine V_iconst hC (-1) dX1_ageOf_21 (by decide) ?_
    exact V_iret hC hr ⟨(-1), rfl, rfl, hw⟩ dX1_ageOf_22
  · have hw := hw.2 c2
    refine V_iload_n hC 3 rfl rfl dX1_ageOf_10 ?_
    refine V_aload_n hC 1 rfl rfl dX1_ageOf_11 ?_
    refine V_get hC inX1 rfl 2 (by decide) wd_77 0 rfl rfl dX1_ageOf_12 ?_
    refine V_iload_n hC 0 rfl rfl dX1_ageOf_15 ?_
    refine V_iald hC _ rfl 3 rfl hw.1 dX1_ageOf_16 ?_
    have hw := hw.2
    refine V_isub hC dX1_ageOf_17 ?_
    refine V_goto hC 22 (by decide) dX1_ageOf_18 ?_
    exact V_iret hC hr ⟨p2 - (a_ticks (Int32.toNatClampNeg r1)), rfl, rfl, hw⟩ dX1_ageOf_22
abbrev po_X1_move (E : EN) (h0 : Nat) (h1 : Nat) (h2 : Nat) (h3 : Nat) (n_count : Int32) (K : (Nat → Int32) → (Nat → Int32) → (Nat → Int32) → Prop) : Option Value → va_W → Prop := fun v ws' => ∃ (a_places : Nat → Int32) (a_cookies : Nat → Int32) (a_ticks : Nat → Int32), v = none ∧ ws' = [(h0, .inr (0, [.ref h1, .ref h2, .ref h3, .int n_count])), (h1, .inl (E.2.1, 4, .inl a_places)), (h2, .inl (E.2.1, 4, .inl a_cookies)), (h3, .inl (E.2.1, 4, .inl a_ticks))] ∧ K a_places a_cookies a_ticks
def wp_X1_move (a_places : Nat → Int32) (a_cookies : Nat → Int32) (a_ticks : Nat → Int32) (n_count : Int32) (p1 : Int32) (p2 : Int32) (K : (Nat → Int32) → (Nat → Int32) → (Nat → Int32) → Prop) : Prop := (vp_in p1 4 ∧ (vp_in p2 4 ∧ (∀ f1 : Nat → Int32, f1 = upd a_places (Int32.toNatClampNeg p2) (a_places (Int32.toNatClampNeg p1)) → (vp_in p1 4 ∧ (vp_in p2 4 ∧ (∀ f2 : Nat → Int32, f2 = upd a_cookies (Int32.toNatClampNeg p2) (a_cookies (Int32.toNatClampNeg p1)) → (vp_in p1 4 ∧ (vp_in p2 4 ∧ (∀ f3 : Nat → Int32, f3 = upd a_ticks (Int32.toNatClampNeg p2) (a_ticks (Int32.toNatClampNeg p1)) → K f1 f2 f3)))))))))
set_option maxRecDepth 100000 in
set_option maxHeartbeats 4000000 in
theorem ct_X1_move (l : Launch) (E : EN) (h0 : Nat) (h1 : Nat) (h2 : Nat) (h3 : Nat) (a_places : Nat → Int32) (a_cookies : Nat → Int32) (a_ticks : Nat → Int32) (n_count : Int32) (p1 : Int32) (p2 : Int32) (K : (Nat → Int32) → (Nat → Int32) → (Nat → Int32) → Prop) (hw : wp_X1_move a_places a_cookies a_ticks n_count p1 p2 K) : Con l yX1_move cX1_move 3 (none) { frames := 0, cells := 0, slots := 0, locals := 0 } E [.ref h0, .int p1, .int p2] [(h0, .inr (0, [.ref h1, .ref h2, .ref h3, .int n_count])), (h1, .inl (E.2.1, 4, .inl a_places)), (h2, .inl (E.2.1, 4, .inl a_cookies)), (h3, .inl (E.2.1, 4, .inl a_ticks))] (po_X1_move E h0 h1 h2 h3 n_count K) := by
  refine Con.mk (by decide) (Nat.le_of_ble_eq_true rfl) ?_
  intro p e s m below meth c A hC hr hin
  have hC : Cx p s m _ meth c E A cX1_move 3 "CookieServer$Entries" := hC
  rw [wp_X1_move] at hw
  refine V_cast [(0, .ref h0), (1, .int p1), (2, .int p2)] [] [(h0, .inr (0, [.ref h1, .ref h2, .ref h3, .int n_count])), (h1, .inl (E.2.1, 4, .inl a_places)), (h2, .inl (E.2.1, 4, .inl a_cookies)), (h3, .inl (E.2.1, 4, .inl a_ticks))] [0, 1, 2] [0, 1, 2, 3] rfl rfl rfl rfl ?_
  refine V_aload_n hC 0 rfl rfl dX1_move_0 ?_
  refine V_get hC inX1 rfl 0 (by decide) wd_75 0 rfl rfl dX1_move_1 ?_
  refine V_iload_n hC 2 rfl rfl dX1_move_4 ?_
  refine V_aload_n hC 0 rfl rfl dX1_move_5 ?_
  refine V_get hC inX1 rfl 0 (by decide) wd_75 0 rfl rfl dX1_move_6 ?_
  refine V_iload_n hC 1 rfl rfl dX1_move_9 ?_
  refine V_iald hC _ rfl 1 rfl hw.1 dX1_move_10 ?_
  have hw := hw.2
  refine V_iast hC _ rfl 1 rfl hw.1 dX1_move_11 (fun f1 ef1 => ?_)
  have hw := hw.2
  have hw := hw f1 ef1
  refine V_ws [(h0, .inr (0, [.ref h1, .ref h2, .ref h3, .int n_count])), (h1, .inl (E.2.1, 4, .inl f1)), (h2, .inl (E.2.1, 4, .inl a_cookies)), (h3, .inl (E.2.1, 4, .inl a_ticks))] rfl ?_
  refine V_aload_n hC 0 rfl rfl dX1_move_12 ?_
  refine V_get hC inX1 rfl 1 (by decide) wd_76 0 rfl rfl dX1_move_13 ?_
  refine V_iload_n hC 2 rfl rfl dX1_move_16 ?_
  refine V_aload_n hC 0 rfl rfl dX1_move_17 ?_
  refine V_get hC inX1 rfl 1 (by decide) wd_76 0 rfl rfl dX1_move_18 ?_
  refine V_iload_n hC 1 rfl rfl dX1_move_21 ?_
  refine V_iald hC _ rfl 2 rfl hw.1 dX1_move_22 ?_
  have hw := hw.2
  refine V_iast hC _ rfl 2 rfl hw.1 dX1_move_23 (fun f2 ef2 => ?_)
  have hw := hw.2
  have hw := hw f2 ef2
  refine V_ws [(h0, .inr (0, [.ref h1, .ref h2, .ref h3, .int n_count])), (h1, .inl (E.2.1, 4, .inl f1)), (h2, .inl (E.2.1, 4, .inl f2)), (h3, .inl (E.2.1, 4, .inl a_ticks))] rfl ?_
  refine V_aload_n hC 0 rfl rfl dX1_move_24 ?_
  refine V_get hC inX1 rfl 2 (by decide) wd_77 0 rfl rfl dX1_move_25 ?_
  refine V_iload_n hC 2 rfl rfl dX1_move_28 ?_
  refine V_aload_n hC 0 rfl rfl dX1_move_29 ?_
  refine V_get hC inX1 rfl 2 (by decide) wd_77 0 rfl rfl dX1_move_30 ?_
  refine V_iload_n hC 1 rfl rfl dX1_move_33 ?_
  refine V_iald hC _ rfl 3 rfl hw.1 dX1_move_34 ?_
  have hw := hw.2
  refine V_iast hC _ rfl 3 rfl hw.1 dX1_move_35 (fun f3 ef3 => ?_)
  have hw := hw.2
  have hw := hw f3 ef3
  refine V_ws [(h0, .inr (0, [.ref h1, .ref h2, .ref h3, .int n_count])), (h1, .inl (E.2.1, 4, .inl f1)), (h2, .inl (E.2.1, 4, .inl f2)), (h3, .inl (E.2.1, 4, .inl f3))] rfl ?_
  exact V_vret hC hr ⟨f1, f2, f3, rfl, rfl, hw⟩ dX1_move_36
abbrev po_X1_keep (E : EN) (h0 : Nat) (h1 : Nat) (h2 : Nat) (h3 : Nat) (K : (Nat → Int32) → (Nat → Int32) → (Nat → Int32) → Int32 → Prop) : Option Value → va_W → Prop := fun v ws' => ∃ (a_places : Nat → Int32) (a_cookies : Nat → Int32) (a_ticks : Nat → Int32) (n_count : Int32), v = none ∧ ws' = [(h0, .inr (0, [.ref h1, .ref h2, .ref h3, .int n_count])), (h1, .inl (E.2.1, 4, .inl a_places)), (h2, .inl (E.2.1, 4, .inl a_cookies)), (h3, .inl (E.2.1, 4, .inl a_ticks))] ∧ K a_places a_cookies a_ticks n_count
def wp_X1_keep (a_places : Nat → Int32) (a_cookies : Nat → Int32) (a_ticks : Nat → Int32) (n_count : Int32) (p1 : Int32) (p2 : Int32) (p3 : Int32) (p4 : Int32) (K : (Nat → Int32) → (Nat → Int32) → (Nat → Int32) → Int32 → Prop) : Prop := (wp_X1_find a_places a_cookies a_ticks n_count p1 (fun (r1 : Int32) => ((0 ≤ r1 → (vp_in r1 4 ∧ (∀ f3 : Nat → Int32, f3 = upd a_places (Int32.toNatClampNeg r1) p1 → (vp_in r1 4 ∧ (∀ f4 : Nat → Int32, f4 = upd a_cookies (Int32.toNatClampNeg r1) p2 → (vp_in r1 4 ∧ (∀ f5 : Nat → Int32, f5 = upd a_ticks (Int32.toNatClampNeg r1) p3 → K f3 f4 f5 n_count))))))) ∧ (¬ (0 ≤ r1) → ((p4 = 0 → K a_places a_cookies a_ticks n_count) ∧ (¬ (p4 = 0) → ((n_count < 4 → (vp_in n_count 4 ∧ (∀ f8 : Nat → Int32, f8 = upd a_places (Int32.toNatClampNeg n_count) p1 → (vp_in n_count 4 ∧ (∀ f9 : Nat → Int32, f9 = upd a_cookies (Int32.toNatClampNeg n_count) p2 → (vp_in n_count 4 ∧ (∀ f10 : Nat → Int32, f10 = upd a_ticks (Int32.toNatClampNeg n_count) p3 → K f8 f9 f10 (n_count + 1)))))))) ∧ (¬ (n_count < 4) → K a_places a_cookies a_ticks n_count))))))))
set_option maxRecDepth 100000 in
set_option maxHeartbeats 4000000 in
theorem ct_X1_keep (l : Launch) (E : EN) (h0 : Nat) (h1 : Nat) (h2 : Nat) (h3 : Nat) (a_places : Nat → Int32) (a_cookies : Nat → Int32) (a_ticks : Nat → Int32) (n_count : Int32) (p1 : Int32) (p2 : Int32) (p3 : Int32) (p4 : Int32) (K : (Nat → Int32) → (Nat → Int32) → (Nat → Int32) → Int32 → Prop) (hw : wp_X1_keep a_places a_cookies a_ticks n_count p1 p2 p3 p4 K) : Con l yX1_keep cX1_keep 6 (none) { frames := 1, cells := 0, slots := 0, locals := 22 } E [.ref h0, .int p1, .int p2, .int p3, .int p4] [(h0, .inr (0, [.ref h1, .ref h2, .ref h3, .int n_count])), (h1, .inl (E.2.1, 4, .inl a_places)), (h2, .inl (E.2.1, 4, .inl a_cookies)), (h3, .inl (E.2.1, 4, .inl a_ticks))] (po_X1_keep E h0 h1 h2 h3 K) := by
  refine Con.mk (by decide) (Nat.le_of_ble_eq_true rfl) ?_
  intro p e s m below meth c A hC hr hin
  have hC : Cx p s m _ meth c E A cX1_keep 6 "CookieServer$Entries" := hC
  rw [wp_X1_keep] at hw
  refine V_cast [(0, .ref h0), (1, .int p1), (2, .int p2), (3, .int p3), (4, .int p4)] [] [(h0, .inr (0, [.ref h1, .ref h2, .ref h3, .int n_count])), (h1, .inl (E.2.1, 4, .inl a_places)), (h2, .inl (E.2.1, 4, .inl a_cookies)), (h3, .inl (E.2.1, 4, .inl a_ticks))] [0, 1, 2, 3, 4] [0, 1, 2, 3] rfl rfl rfl rfl ?_
  refine V_aload_n hC 0 rfl rfl dX1_keep_0 ?_
  refine V_iload_n hC 1 rfl rfl dX1_keep_1 ?_
  refine V_callV hC (wr := []) 1 [.int p1] [] (ct_X1_find l E h0 h1 h2 h3 a_places a_cookies a_ticks n_count p1 _ hw) wd_357 wd_35 wd_354 wd_356 wd_3 (by decide +kernel) rfl ⟨Nat.le_of_ble_eq_true rfl, Nat.le_of_ble_eq_true rfl⟩ [0, 1, 2, 3] [] rfl rfl rfl rfl (by decide) rfl rfl rfl (Nat.le_of_ble_eq_true rfl) ⟨Nat.le_of_ble_eq_true rfl, Nat.le_of_ble_eq_true rfl⟩ dX1_keep_2 (fun v ws' hp => ?_)
  obtain ⟨r1, rfl, rfl, hw⟩ := hp
  refine V_cast [(0, .ref h0), (1, .int p1), (2, .int p2), (3, .int p3), (4, .int p4)] [.int r1] [(h0, .inr (0, [.ref h1, .ref h2, .ref h3, .int n_count])), (h1, .inl (E.2.1, 4, .inl a_places)), (h2, .inl (E.2.1, 4, .inl a_cookies)), (h3, .inl (E.2.1, 4, .inl a_ticks))] [0, 1, 2, 3, 4] [0, 1, 2, 3] rfl rfl rfl rfl ?_
  refine V_istore hC [(5, .int r1), (0, .ref h0), (1, .int p1), (2, .int p2), (3, .int p3), (4, .int p4)] (by decide) rfl dX1_keep_5 ?_
  refine V_iload hC 0 rfl dX1_keep_7 ?_
  refine V_if_ge hC 42 (by decide) dX1_keep_9 (fun c2 => ?_) (fun c2 => ?_)
  · have hw := hw.1 c2
    refine V_aload_n hC 1 rfl rfl dX1_keep_42 ?_
    refine V_get hC inX1 rfl 0 (by decide) wd_75 0 rfl rfl dX1_keep_43 ?_
    refine V_iload hC 0 rfl dX1_keep_46 ?_
    refine V_iload_n hC 2 rfl rfl dX1_keep_48 ?_
    refine V_iast hC _ rfl 1 rfl hw.1 dX1_keep_49 (fun f3 ef3 => ?_)
    have hw := hw.2
    have hw := hw f3 ef3
    refine V_ws [(h0, .inr (0, [.ref h1, .ref h2, .ref h3, .int n_count])), (h1, .inl (E.2.1, 4, .inl f3)), (h2, .inl (E.2.1, 4, .inl a_cookies)), (h3, .inl (E.2.1, 4, .inl a_ticks))] rfl ?_
    refine V_aload_n hC 1 rfl rfl dX1_keep_50 ?_
    refine V_get hC inX1 rfl 1 (by decide) wd_76 0 rfl rfl dX1_keep_51 ?_
    refine V_iload hC 0 rfl dX1_keep_54 ?_
    refine V_iload_n hC 3 rfl rfl dX1_keep_56 ?_
    refine V_iast hC _ rfl 2 rfl hw.1 dX1_keep_57 (fun f4 ef4 => ?_)
    have hw := hw.2
    have hw := hw f4 ef4
    refine V_ws [(h0, .inr (0, [.ref h1, .ref h2, .ref h3, .int n_count])), (h1, .inl (E.2.1, 4, .inl f3)), (h2, .inl (E.2.1, 4, .inl f4)), (h3, .inl (E.2.1, 4, .inl a_ticks))] rfl ?_
    refine V_aload_n hC 1 rfl rfl dX1_keep_58 ?_
    refine V_get hC inX1 rfl 2 (by decide) wd_77 0 rfl rfl dX1_keep_59 ?_
    refine V_iload hC 0 rfl dX1_keep_62 ?_
    refine V_iload_n hC 4 rfl rfl dX1_keep_64 ?_
    refine V_iast hC _ rfl 3 rfl hw.1 dX1_keep_65 (fun f5 ef5 => ?_)
    have hw := hw.2
    have hw := hw f5 ef5
    refine V_ws [(h0, .inr (0, [.ref h1, .ref h2, .ref h3, .int n_count])), (h1, .inl (E.2.1, 4, .inl f3)), (h2, .inl (E.2.1, 4, .inl f4)), (h3, .inl (E.2.1, 4, .inl f5))] rfl ?_
    exact V_vret hC hr ⟨f3, f4, f5, n_count, rfl, rfl, hw⟩ dX1_keep_66
  · have hw := hw.2 c2
    refine V_iload hC 5 rfl dX1_keep_12 ?_
    refine V_if_eq hC 25 (by decide) dX1_keep_14 (fun c6 => ?_) (fun c6 => ?_)
    · have hw := hw.1 c6
      exact V_vret hC hr ⟨a_places, a_cookies, a_ticks, n_count, rfl, rfl, hw⟩ dX1_keep_25
    · have hw := hw.2 c6
      refine V_aload_n hC 1 rfl rfl dX1_keep_17 ?_
      refine V_get hC inX1 rfl 3 (by decide) wd_78 0 rfl rfl dX1_keep_18 ?_
      refine V_iconst hC 4 dX1_keep_21 (by decide) ?_
      refine V_icmp_lt hC 26 (by decide) dX1_keep_22 (fun c7 => ?_) (fun c7 => ?_)
      · have hw := hw.1 c7
        refine V_aload_n hC 1 rfl rfl dX1_keep_26 ?_
        refine V_get hC inX1 rfl 3 (by decide) wd_78 0 rfl rfl dX1_keep_27 ?_
        refine V_istore hC [(5, .int n_count), (0, .ref h0), (1, .int p1), (2, .int p2), (3, .int p3), (4, .int p4)] (by decide) rfl dX1_keep_30 ?_
        refine V_aload_n hC 1 rfl rfl dX1_keep_32 ?_
        refine V_dup hC rfl dX1_keep_33 ?_
        refine V_get hC inX1 rfl 3 (by decide) wd_78 0 rfl rfl dX1_keep_34 ?_
        refine V_iconst hC 1 dX1_keep_37 (by decide) ?_
        refine V_iadd hC dX1_keep_38 ?_
        refine V_put hC [(h0, .inr (0, [.ref h1, .ref h2, .ref h3, .int (n_count + 1)])), (h1, .inl (E.2.1, 4, .inl a_places)), (h2, .inl (E.2.1, 4, .inl a_cookies)), (h3, .inl (E.2.1, 4, .inl a_ticks))] inX1 tyX1_ok nmX1 rfl 3 (by decide) wd_78 rfl (ty := .int) (by decide +kernel) rfl rfl 0 rfl (Nat.le_of_ble_eq_true rfl) rfl dX1_keep_39 ?_
        refine V_aload_n hC 1 rfl rfl dX1_keep_42 ?_
        refine V_get hC inX1 rfl 0 (by decide) wd_75 0 rfl rfl dX1_keep_43 ?_
        refine V_iload hC 0 rfl dX1_keep_46 ?_
        refine V_iload_n hC 2 rfl rfl dX1_keep_48 ?_
        refine V_iast hC _ rfl 1 rfl hw.1 dX1_keep_49 (fun f8 ef8 => ?_)
        have hw := hw.2
        have hw := hw f8 ef8
        refine V_ws [(h0, .inr (0, [.ref h1, .ref h2, .ref h3, .int (n_count + 1)])), (h1, .inl (E.2.1, 4, .inl f8)), (h2, .inl (E.2.1, 4, .inl a_cookies)), (h3, .inl (E.2.1, 4, .inl a_ticks))] rfl ?_
        refine V_aload_n hC 1 rfl rfl dX1_keep_50 ?_
        refine V_get hC inX1 rfl 1 (by decide) wd_76 0 rfl rfl dX1_keep_51 ?_
        refine V_iload hC 0 rfl dX1_keep_54 ?_
        refine V_iload_n hC 3 rfl rfl dX1_keep_56 ?_
        refine V_iast hC _ rfl 2 rfl hw.1 dX1_keep_57 (fun f9 ef9 => ?_)
        have hw := hw.2
        have hw := hw f9 ef9
        refine V_ws [(h0, .inr (0, [.ref h1, .ref h2, .ref h3, .int (n_count + 1)])), (h1, .inl (E.2.1, 4, .inl f8)), (h2, .inl (E.2.1, 4, .inl f9)), (h3, .inl (E.2.1, 4, .inl a_ticks))] rfl ?_
        refine V_aload_n hC 1 rfl rfl dX1_keep_58 ?_
        refine V_get hC inX1 rfl 2 (by decide) wd_77 0 rfl rfl dX1_keep_59 ?_
        refine V_iload hC 0 rfl dX1_keep_62 ?_
        refine V_iload_n hC 4 rfl rfl dX1_keep_64 ?_
        refine V_iast hC _ rfl 3 rfl hw.1 dX1_keep_65 (fun f10 ef10 => ?_)
        have hw := hw.2
        have hw := hw f10 ef10
        refine V_ws [(h0, .inr (0, [.ref h1, .ref h2, .ref h3, .int (n_count + 1)])), (h1, .inl (E.2.1, 4, .inl f8)), (h2, .inl (E.2.1, 4, .inl f9)), (h3, .inl (E.2.1, 4, .inl f10))] rfl ?_
        exact V_vret hC hr ⟨f8, f9, f10, n_count + 1, rfl, rfl, hw⟩ dX1_keep_66
      · have hw := hw.2 c7
        exact V_vret hC hr ⟨a_places, a_cookies, a_ticks, n_count, rfl, rfl, hw⟩ dX1_keep_25
abbrev po_X1_drop (E : EN) (h0 : Nat) (h1 : Nat) (h2 : Nat) (h3 : Nat) (K : (Nat → Int32) → (Nat → Int32) → (Nat → Int32) → Int32 → Prop) : Option Value → va_W → Prop := fun v ws' => ∃ (a_places : Nat → Int32) (a_cookies : Nat → Int32) (a_ticks : Nat → Int32) (n_count : Int32), v = none ∧ ws' = [(h0, .inr (0, [.ref h1, .ref h2, .ref h3, .int n_count])), (h1, .inl (E.2.1, 4, .inl a_places)), (h2, .inl (E.2.1, 4, .inl a_cookies)), (h3, .inl (E.2.1, 4, .inl a_ticks))] ∧ K a_places a_cookies a_ticks n_count
def wpl_X1_drop_4 (K : (Nat → Int32) → (Nat → Int32) → (Nat → Int32) → Int32 → Prop) : Nat → Int32 → Int32 → Int32 → (Nat → Int32) → (Nat → Int32) → (Nat → Int32) → Int32 → Prop
  | 0, _, _, _, _, _, _, _ => False
  | n9 + 1, x1, x2, x3, a_places, a_cookies, a_ticks, n_count => ((n_count ≤ x3 → K a_places a_cookies a_ticks x2) ∧ (¬ (n_count ≤ x3) → (vp_in x3 4 ∧ (((a_places (Int32.toNatClampNeg x3)) = x1 → wpl_X1_drop_4 K n9 x1 x2 (x3 + 1) a_places a_cookies a_ticks n_count) ∧ (¬ ((a_places (Int32.toNatClampNeg x3)) = x1) → (wp_X1_move a_places a_cookies a_ticks n_count x3 x2 (fun (g3 : Nat → Int32) (g4 : Nat → Int32) (g5 : Nat → Int32) => wpl_X1_drop_4 K n9 x1 (x2 + 1) (x3 + 1) g3 g4 g5 n_count)))))))
set_option maxRecDepth 100000 in
set_option maxHeartbeats 4000000 in
theorem bl_X1_drop_4 {p : Program} {l : Launch} {e : Env} {s : State} {m : MethodId} {args : Array Value} {below : List Frame} {meth : Method} {c : Code} {E : EN} {A : Nat → Prop} (hC : Cx p s m args meth c E A cX1_drop 4 "CookieServer$Entries") (hr : meth.sig.returnType = none) (h0 : Nat) (h1 : Nat) (h2 : Nat) (h3 : Nat) (K : (Nat → Int32) → (Nat → Int32) → (Nat → Int32) → Int32 → Prop) : ∀ (n8 : Nat) (x1 : Int32) (x2 : Int32) (x3 : Int32) (a_places : Nat → Int32) (a_cookies : Nat → Int32) (a_ticks : Nat → Int32) (n_count : Int32), wpl_X1_drop_4 K n8 x1 x2 x3 a_places a_cookies a_ticks n_count → V p l e { frames := 1, cells := 0, slots := 0, locals := 22 } s m args below meth c E A 4 0 0 (MQ below (QP E (po_X1_drop E h0 h1 h2 h3 K) A) args s 0 0 A) 4 [(0, .ref h0), (1, .int x1), (2, .int x2), (3, .int x3)] [] [(h0, .inr (0, [.ref h1, .ref h2, .ref h3, .int n_count])), (h1, .inl (E.2.1, 4, .inl a_places)), (h2, .inl (E.2.1, 4, .inl a_cookies)), (h3, .inl (E.2.1, 4, .inl a_ticks))] := by
  intro n8
  induction n8 with
  | zero => intro x1 x2 x3 a_places a_cookies a_ticks n_count hw; rw [wpl_X1_drop_4] at hw; exact hw.elim
  | succ n9 ih =>
    intro x1 x2 x3 a_places a_cookies a_ticks n_count hw
    rw [wpl_X1_drop_4] at hw
    refine V_iload_n hC 3 rfl rfl dX1_drop_4 ?_
    refine V_aload_n hC 0 rfl rfl dX1_drop_5 ?_
    refine V_get hC inX1 rfl 3 (by decide) wd_78 0 rfl rfl dX1_drop_6 ?_
    refine V_icmp_ge hC 37 (by decide) dX1_drop_9 (fun c1 => ?_) (fun c1 => ?_)
    · have hw := hw.1 c1
      refine V_aload_n hC 0 rfl rfl dX1_drop_37 ?_
      refine V_iload_n hC 2 rfl rfl dX1_drop_38 ?_
      refine V_put hC [(h0, .inr (0, [.ref h1, .ref h2, .ref h3, .int x2])), (h1, .inl (E.2.1, 4, .inl a_places)), (h2, .inl (E.2.1, 4, .inl a_cookies)), (h3, .inl (E.2.1, 4, .inl a_ticks))] inX1 tyX1_ok nmX1 rfl 3 (by decide) wd_78 rfl (ty := .int) (by decide +kernel) rfl rfl 0 rfl (Nat.le_of_ble_eq_true rfl) rfl dX1_drop_39 ?_
      exact V_vret hC hr ⟨a_places, a_cookies, a_ticks, x2, rfl, rfl, hw⟩ dX1_drop_42
    · have hw := hw.2 c1
      refine V_aload_n hC 0 rfl rfl dX1_drop_12 ?_
      refine V_get hC inX1 rfl 0 (by decide) wd_75 0 rfl rfl dX1_drop_13 ?_
      refine V_iload_n hC 3 rfl rfl dX1_drop_16 ?_
      refine V_iald hC _ rfl 1 rfl hw.1 dX1_drop_17 ?_
      have hw := hw.2
      refine V_iload_n hC 1 rfl rfl dX1_drop_18 ?_
      refine V_icmp_eq hC 31 (by decide) dX1_drop_19 (fun c2 => ?_) (fun c2 => ?_)
      · have hw := hw.1 c2
        refine V_iinc hC (x3 + 1) 3 [(3, .int (x3 + 1)), (0, .ref h0), (1, .int x1), (2, .int x2)] rfl rfl (by decide) rfl dX1_drop_31 ?_
        refine V_goto hC 4 (by decide) dX1_drop_34 ?_
        refine V_cast [(0, .ref h0), (1, .int x1), (2, .int x2), (3, .int (x3 + 1))] [] [(h0, .inr (0, [.ref h1, .ref h2, .ref h3, .int n_count])), (h1, .inl (E.2.1, 4, .inl a_places)), (h2, .inl (E.2.1, 4, .inl a_cookies)), (h3, .inl (E.2.1, 4, .inl a_ticks))] [1, 2, 3, 0] [0, 1, 2, 3] rfl rfl rfl rfl ?_
        exact ih x1 x2 (x3 + 1) a_places a_cookies a_ticks n_count hw
      · have hw := hw.2 c2
        refine V_aload_n hC 0 rfl rfl dX1_drop_22 ?_
        refine V_iload_n hC 3 rfl rfl dX1_drop_23 ?_
        refine V_iload_n hC 2 rfl rfl dX1_drop_24 ?_
        refine V_callV hC (wr := []) 2 [.int x3, .int x2] [] (ct_X1_move l E h0 h1 h2 h3 a_places a_cookies a_ticks n_count x3 x2 _ hw) wd_286 wd_35 wd_283 wd_285 wd_2 (by decide +kernel) rfl ⟨Nat.le_of_ble_eq_true rfl, Nat.le_of_ble_eq_true rfl⟩ [0, 1, 2, 3] [] rfl rfl rfl rfl (by decide) rfl rfl rfl (Nat.le_of_ble_eq_true rfl) ⟨Nat.le_of_ble_eq_true rfl, Nat.le_of_ble_eq_true rfl⟩ dX1_drop_25 (fun v ws' hp => ?_)
        obtain ⟨g3, g4, g5, rfl, rfl, hw⟩ := hp
        refine V_cast [(0, .ref h0), (1, .int x1), (2, .int x2), (3, .int x3)] [] [(h0, .inr (0, [.ref h1, .ref h2, .ref h3, .int n_count])), (h1, .inl (E.2.1, 4, .inl g3)), (h2, .inl (E.2.1, 4, .inl g4)), (h3, .inl (E.2.1, 4, .inl g5))] [0, 1, 2, 3] [0, 1, 2, 3] rfl rfl rfl rfl ?_
        refine V_iinc hC (x2 + 1) 2 [(2, .int (x2 + 1)), (0, .ref h0), (1, .int x1), (3, .int x3)] rfl rfl (by decide) rfl dX1_drop_28 ?_
        refine V_iinc hC (x3 + 1) 3 [(3, .int (x3 + 1)), (2, .int (x2 + 1)), (0, .ref h0), (1, .int x1)] rfl rfl (by decide) rfl dX1_drop_31 ?_
        refine V_goto hC 4 (by decide) dX1_drop_34 ?_
        refine V_cast [(0, .ref h0), (1, .int x1), (2, .int (x2 + 1)), (3, .int (x3 + 1))] [] [(h0, .inr (0, [.ref h1, .ref h2, .ref h3, .int n_count])), (h1, .inl (E.2.1, 4, .inl g3)), (h2, .inl (E.2.1, 4, .inl g4)), (h3, .inl (E.2.1, 4, .inl g5))] [2, 3, 1, 0] [0, 1, 2, 3] rfl rfl rfl rfl ?_
        exact ih x1 (x2 + 1) (x3 + 1) g3 g4 g5 n_count hw
def wp_X1_drop (a_places : Nat → Int32) (a_cookies : Nat → Int32) (a_ticks : Nat → Int32) (n_count : Int32) (p1 : Int32) (K : (Nat → Int32) → (Nat → Int32) → (Nat → Int32) → Int32 → Prop) : Prop := (∃ n8 : Nat, wpl_X1_drop_4 K n8 p1 0 0 a_places a_cookies a_ticks n_count)
set_option maxRecDepth 100000 in
set_option maxHeartbeats 4000000 in
theorem ct_X1_drop (l : Launch) (E : EN) (h0 : Nat) (h1 : Nat) (h2 : Nat) (h3 : Nat) (a_places : Nat → Int32) (a_cookies : Nat → Int32) (a_ticks : Nat → Int32) (n_count : Int32) (p1 : Int32) (K : (Nat → Int32) → (Nat → Int32) → (Nat → Int32) → Int32 → Prop) (hw : wp_X1_drop a_places a_cookies a_ticks n_count p1 K) : Con l yX1_drop cX1_drop 4 (none) { frames := 1, cells := 0, slots := 0, locals := 22 } E [.ref h0, .int p1] [(h0, .inr (0, [.ref h1, .ref h2, .ref h3, .int n_count])), (h1, .inl (E.2.1, 4, .inl a_places)), (h2, .inl (E.2.1, 4, .inl a_cookies)), (h3, .inl (E.2.1, 4, .inl a_ticks))] (po_X1_drop E h0 h1 h2 h3 K) := by
  refine Con.mk (by decide) (Nat.le_of_ble_eq_true rfl) ?_
  intro p e s m below meth c A hC hr hin
  have hC : Cx p s m _ meth c E A cX1_drop 4 "CookieServer$Entries" := hC
  rw [wp_X1_drop] at hw
  refine V_cast [(0, .ref h0), (1, .int p1)] [] [(h0, .inr (0, [.ref h1, .ref h2, .ref h3, .int n_count])), (h1, .inl (E.2.1, 4, .inl a_places)), (h2, .inl (E.2.1, 4, .inl a_cookies)), (h3, .inl (E.2.1, 4, .inl a_ticks))] [0, 1] [0, 1, 2, 3] rfl rfl rfl rfl ?_
  refine V_iconst hC 0 dX1_drop_0 (by decide) ?_
  refine V_istore_n hC [(2, .int 0), (0, .ref h0), (1, .int p1)] rfl (by decide) rfl dX1_drop_1 ?_
  refine V_iconst hC 0 dX1_drop_2 (by decide) ?_
  refine V_istore_n hC [(3, .int 0), (2, .int 0), (0, .ref h0), (1, .int p1)] rfl (by decide) rfl dX1_drop_3 ?_
  refine V_cast [(0, .ref h0), (1, .int p1), (2, .int 0), (3, .int 0)] [] [(h0, .inr (0, [.ref h1, .ref h2, .ref h3, .int n_count])), (h1, .inl (E.2.1, 4, .inl a_places)), (h2, .inl (E.2.1, 4, .inl a_cookies)), (h3, .inl (E.2.1, 4, .inl a_ticks))] [2, 3, 1, 0] [0, 1, 2, 3] rfl rfl rfl rfl ?_
  obtain ⟨n8, hw⟩ := hw
  exact bl_X1_drop_4 hC hr h0 h1 h2 h3 K n8 p1 0 0 a_places a_cookies a_ticks n_count hw
abbrev po_X1_expire (E : EN) (h0 : Nat) (h1 : Nat) (h2 : Nat) (h3 : Nat) (K : (Nat → Int32) → (Nat → Int32) → (Nat → Int32) → Int32 → Prop) : Option Value → va_W → Prop := fun v ws' => ∃ (a_places : Nat → Int32) (a_cookies : Nat → Int32) (a_ticks : Nat → Int32) (n_count : Int32), v = none ∧ ws' = [(h0, .inr (0, [.ref h1, .ref h2, .ref h3, .int n_count])), (h1, .inl (E.2.1, 4, .inl a_places)), (h2, .inl (E.2.1, 4, .inl a_cookies)), (h3, .inl (E.2.1, 4, .inl a_ticks))] ∧ K a_places a_cookies a_ticks n_count
def wpl_X1_expire_4 (K : (Nat → Int32) → (Nat → Int32) → (Nat → Int32) → Int32 → Prop) : Nat → Int32 → Int32 → Int32 → (Nat → Int32) → (Nat → Int32) → (Nat → Int32) → Int32 → Prop
  | 0, _, _, _, _, _, _, _ => False
  | n9 + 1, x1, x2, x3, a_places, a_cookies, a_ticks, n_count => ((n_count ≤ x3 → K a_places a_cookies a_ticks x2) ∧ (¬ (n_count ≤ x3) → (vp_in x3 4 ∧ ((20 ≤ (x1 - (a_ticks (Int32.toNatClampNeg x3))) → wpl_X1_expire_4 K n9 x1 x2 (x3 + 1) a_places a_cookies a_ticks n_count) ∧ (¬ (20 ≤ (x1 - (a_ticks (Int32.toNatClampNeg x3)))) → (wp_X1_move a_places a_cookies a_ticks n_count x3 x2 (fun (g3 : Nat → Int32) (g4 : Nat → Int32) (g5 : Nat → Int32) => wpl_X1_expire_4 K n9 x1 (x2 + 1) (x3 + 1) g3 g4 g5 n_count)))))))
set_option maxRecDepth 100000 in
set_option maxHeartbeats 4000000 in
theorem bl_X1_expire_4 {p : Program} {l : Launch} {e : Env} {s : State} {m : MethodId} {args : Array Value} {below : List Frame} {meth : Method} {c : Code} {E : EN} {A : Nat → Prop} (hC : Cx p s m args meth c E A cX1_expire 4 "CookieServer$Entries") (hr : meth.sig.returnType = none) (h0 : Nat) (h1 : Nat) (h2 : Nat) (h3 : Nat) (K : (Nat → Int32) → (Nat → Int32) → (Nat → Int32) → Int32 → Prop) : ∀ (n8 : Nat) (x1 : Int32) (x2 : Int32) (x3 : Int32) (a_places : Nat → Int32) (a_cookies : Nat → Int32) (a_ticks : Nat → Int32) (n_count : Int32), wpl_X1_expire_4 K n8 x1 x2 x3 a_places a_cookies a_ticks n_count → V p l e { frames := 1, cells := 0, slots := 0, locals := 22 } s m args below meth c E A 4 0 0 (MQ below (QP E (po_X1_expire E h0 h1 h2 h3 K) A) args s 0 0 A) 4 [(0, .ref h0), (1, .int x1), (2, .int x2), (3, .int x3)] [] [(h0, .inr (0, [.ref h1, .ref h2, .ref h3, .int n_count])), (h1, .inl (E.2.1, 4, .inl a_places)), (h2, .inl (E.2.1, 4, .inl a_cookies)), (h3, .inl (E.2.1, 4, .inl a_ticks))] := by
  intro n8
  induction n8 with
  | zero => intro x1 x2 x3 a_places a_cookies a_ticks n_count hw; rw [wpl_X1_expire_4] at hw; exact hw.elim
  | succ n9 ih =>
    intro x1 x2 x3 a_places a_cookies a_ticks n_count hw
    rw [wpl_X1_expire_4] at hw
    refine V_iload_n hC 3 rfl rfl dX1_expire_4 ?_
    refine V_aload_n hC 0 rfl rfl dX1_expire_5 ?_
    refine V_get hC inX1 rfl 3 (by decide) wd_78 0 rfl rfl dX1_expire_6 ?_
    refine V_icmp_ge hC 40 (by decide) dX1_expire_9 (fun c1 => ?_) (fun c1 => ?_)
    · have hw := hw.1 c1
      refine V_aload_n hC 0 rfl rfl dX1_expire_40 ?_
      refine V_iload_n hC 2 rfl rfl dX1_expire_41 ?_
      refine V_put hC [(h0, .inr (0, [.ref h1, .ref h2, .ref h3, .int x2])), (h1, .inl (E.2.1, 4, .inl a_places)), (h2, .inl (E.2.1, 4, .inl a_cookies)), (h3, .inl (E.2.1, 4, .inl a_ticks))] inX1 tyX1_ok nmX1 rfl 3 (by decide) wd_78 rfl (ty := .int) (by decide +kernel) rfl rfl 0 rfl (Nat.le_of_ble_eq_true rfl) rfl dX1_expire_42 ?_
      exact V_vret hC hr ⟨a_places, a_cookies, a_ticks, x2, rfl, rfl, hw⟩ dX1_expire_45
    · have hw := hw.2 c1
      refine V_iload_n hC 1 rfl rfl dX1_expire_12 ?_
      refine V_aload_n hC 0 rfl rfl dX1_expire_13 ?_
      refine V_get hC inX1 rfl 2 (by decide) wd_77 0 rfl rfl dX1_expire_14 ?_
      refine V_iload_n hC 3 rfl rfl dX1_expire_17 ?_
      refine V_iald hC _ rfl 3 rfl hw.1 dX1_expire_18 ?_
      have hw := hw.2
      refine V_isub hC dX1_expire_19 ?_
      refine V_bipush hC 20 dX1_expire_20 (by decide) ?_
      refine V_icmp_ge hC 34 (by decide) dX1_expire_22 (fun c2 => ?_) (fun c2 => ?_)
      · have hw := hw.1 c2
        refine V_iinc hC (x3 + 1) 3 [(3, .int (x3 + 1)), (0, .ref h0), (1, .int x1), (2, .int x2)] rfl rfl (by decide) rfl dX1_expire_34 ?_
        refine V_goto hC 4 (by decide) dX1_expire_37 ?_
        refine V_cast [(0, .ref h0), (1, .int x1), (2, .int x2), (3, .int (x3 + 1))] [] [(h0, .inr (0, [.ref h1, .ref h2, .ref h3, .int n_count])), (h1, .inl (E.2.1, 4, .inl a_places)), (h2, .inl (E.2.1, 4, .inl a_cookies)), (h3, .inl (E.2.1, 4, .inl a_ticks))] [1, 2, 3, 0] [0, 1, 2, 3] rfl rfl rfl rfl ?_
        exact ih x1 x2 (x3 + 1) a_places a_cookies a_ticks n_count hw
      · have hw := hw.2 c2
        refine V_aload_n hC 0 rfl rfl dX1_expire_25 ?_
        refine V_iload_n hC 3 rfl rfl dX1_expire_26 ?_
        refine V_iload_n hC 2 rfl rfl dX1_expire_27 ?_
        refine V_callV hC (wr := []) 2 [.int x3, .int x2] [] (ct_X1_move l E h0 h1 h2 h3 a_places a_cookies a_ticks n_count x3 x2 _ hw) wd_286 wd_35 wd_283 wd_285 wd_2 (by decide +kernel) rfl ⟨Nat.le_of_ble_eq_true rfl, Nat.le_of_ble_eq_true rfl⟩ [0, 1, 2, 3] [] rfl rfl rfl rfl (by decide) rfl rfl rfl (Nat.le_of_ble_eq_true rfl) ⟨Nat.le_of_ble_eq_true rfl, Nat.le_of_ble_eq_true rfl⟩ dX1_expire_28 (fun v ws' hp => ?_)
        obtain ⟨g3, g4, g5, rfl, rfl, hw⟩ := hp
        refine V_cast [(0, .ref h0), (1, .int x1), (2, .int x2), (3, .int x3)] [] [(h0, .inr (0, [.ref h1, .ref h2, .ref h3, .int n_count])), (h1, .inl (E.2.1, 4, .inl g3)), (h2, .inl (E.2.1, 4, .inl g4)), (h3, .inl (E.2.1, 4, .inl g5))] [0, 1, 2, 3] [0, 1, 2, 3] rfl rfl rfl rfl ?_
        refine V_iinc hC (x2 + 1) 2 [(2, .int (x2 + 1)), (0, .ref h0), (1, .int x1), (3, .int x3)] rfl rfl (by decide) rfl dX1_expire_31 ?_
        refine V_iinc hC (x3 + 1) 3 [(3, .int (x3 + 1)), (2, .int (x2 + 1)), (0, .ref h0), (1, .int x1)] rfl rfl (by decide) rfl dX1_expire_34 ?_
        refine V_goto hC 4 (by decide) dX1_expire_37 ?_
        refine V_cast [(0, .ref h0), (1, .int x1), (2, .int (x2 + 1)), (3, .int (x3 + 1))] [] [(h0, .inr (0, [.ref h1, .ref h2, .ref h3, .int n_count])), (h1, .inl (E.2.1, 4, .inl g3)), (h2, .inl (E.2.1, 4, .inl g4)), (h3, .inl (E.2.1, 4, .inl g5))] [2, 3, 1, 0] [0, 1, 2, 3] rfl rfl rfl rfl ?_
        exact ih x1 (x2 + 1) (x3 + 1) g3 g4 g5 n_count hw
def wp_X1_expire (a_places : Nat → Int32) (a_cookies : Nat → Int32) (a_ticks : Nat → Int32) (n_count : Int32) (p1 : Int32) (K : (Nat → Int32) → (Nat → Int32) → (Nat → Int32) → Int32 → Prop) : Prop := (∃ n8 : Nat, wpl_X1_expire_4 K n8 p1 0 0 a_places a_cookies a_ticks n_count)
set_option maxRecDepth 100000 in
set_option maxHeartbeats 4000000 in
theorem ct_X1_expire (l : Launch) (E : EN) (h0 : Nat) (h1 : Nat) (h2 : Nat) (h3 : Nat) (a_places : Nat → Int32) (a_cookies : Nat → Int32) (a_ticks : Nat → Int32) (n_count : Int32) (p1 : Int32) (K : (Nat → Int32) → (Nat → Int32) → (Nat → Int32) → Int32 → Prop) (hw : wp_X1_expire a_places a_cookies a_ticks n_count p1 K) : Con l yX1_expire cX1_expire 4 (none) { frames := 1, cells := 0, slots := 0, locals := 22 } E [.ref h0, .int p1] [(h0, .inr (0, [.ref h1, .ref h2, .ref h3, .int n_count])), (h1, .inl (E.2.1, 4, .inl a_places)), (h2, .inl (E.2.1, 4, .inl a_cookies)), (h3, .inl (E.2.1, 4, .inl a_ticks))] (po_X1_expire E h0 h1 h2 h3 K) := by
  refine Con.mk (by decide) (Nat.le_of_ble_eq_true rfl) ?_
  intro p e s m below meth c A hC hr hin
  have hC : Cx p s m _ meth c E A cX1_expire 4 "CookieServer$Entries" := hC
  rw [wp_X1_expire] at hw
  refine V_cast [(0, .ref h0), (1, .int p1)] [] [(h0, .inr (0, [.ref h1, .ref h2, .ref h3, .int n_count])), (h1, .inl (E.2.1, 4, .inl a_places)), (h2, .inl (E.2.1, 4, .inl a_cookies)), (h3, .inl (E.2.1, 4, .inl a_ticks))] [0, 1] [0, 1, 2, 3] rfl rfl rfl rfl ?_
  refine V_iconst hC 0 dX1_expire_0 (by decide) ?_
  refine V_istore_n hC [(2, .int 0), (0, .ref h0), (1, .int p1)] rfl (by decide) rfl dX1_expire_1 ?_
  refine V_iconst hC 0 dX1_expire_2 (by decide) ?_
  refine V_istore_n hC [(3, .int 0), (2, .int 0), (0, .ref h0), (1, .int p1)] rfl (by decide) rfl dX1_expire_3 ?_
  refine V_cast [(0, .ref h0), (1, .int p1), (2, .int 0), (3, .int 0)] [] [(h0, .inr (0, [.ref h1, .ref h2, .ref h3, .int n_count])), (h1, .inl (E.2.1, 4, .inl a_places)), (h2, .inl (E.2.1, 4, .inl a_cookies)), (h3, .inl (E.2.1, 4, .inl a_ticks))] [2, 3, 1, 0] [0, 1, 2, 3] rfl rfl rfl rfl ?_
  obtain ⟨n8, hw⟩ := hw
  exact bl_X1_expire_4 hC hr h0 h1 h2 h3 K n8 p1 0 0 a_places a_cookies a_ticks n_count hw
