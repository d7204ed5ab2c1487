abbrev po_X9_fails (E : EN) (h0 : Nat) (h1 : Nat) (h2 : Nat) (h3 : Nat) (a_now : Nat → Int32) (a_past : Nat → Int32) (n_saved : Int32) (n_hash : Int64) (K : Int32 → (Nat → Int32) → Prop) : Option Value → va_W → Prop := fun v ws' => ∃ (r0 : Int32) (a_errors : Nat → Int32), v = some (.int r0) ∧ ws' = [(h0, .inr (8, [.ref h1, .ref h2, .int n_saved, .ref h3, .long n_hash])), (h1, .inl (E.2.1, 404, .inl a_now)), (h2, .inl (E.2.1, 1212, .inl a_past)), (h3, .inl (E.2.1, 9, .inl a_errors))] ∧ K r0 a_errors
def wp_X9_fails (a_now : Nat → Int32) (a_past : Nat → Int32) (n_saved : Int32) (a_errors : Nat → Int32) (n_hash : Int64) (p1 : Int32) (K : Int32 → (Nat → Int32) → Prop) : Prop := (vp_in ((-2) - p1) 9 ∧ (vp_in ((-2) - p1) 9 ∧ (∀ f1 : Nat → Int32, f1 = upd a_errors (Int32.toNatClampNeg ((-2) - p1)) ((a_errors (Int32.toNatClampNeg ((-2) - p1))) + 1) → K p1 f1)))
set_option maxRecDepth 100000 in
set_option maxHeartbeats 4000000 in
theorem ct_X9_fails (l : Launch) (E : EN) (h0 : Nat) (h1 : Nat) (h2 : Nat) (h3 : Nat) (a_now : Nat → Int32) (a_past : Nat → Int32) (n_saved : Int32) (a_errors : Nat → Int32) (n_hash : Int64) (p1 : Int32) (K : Int32 → (Nat → Int32) → Prop) (hw : wp_X9_fails a_now a_past n_saved a_errors n_hash p1 K) : Con l yX9_fails cX9_fails 2 (some .int) { frames := 0, cells := 0, slots := 0, locals := 0 } E [.ref h0, .int p1] [(h0, .inr (8, [.ref h1, .ref h2, .int n_saved, .ref h3, .long n_hash])), (h1, .inl (E.2.1, 404, .inl a_now)), (h2, .inl (E.2.1, 1212, .inl a_past)), (h3, .inl (E.2.1, 9, .inl a_errors))] (po_X9_fails E h0 h1 h2 h3 a_now a_past n_saved n_hash K) := by
  refine Con.mk (by decide +kernel) (Nat.le_of_ble_eq_true rfl) ?_
  intro p e s m below meth c A hC hr hin
  have hC : Cx p s m _ meth c E A cX9_fails 2 "CookieServerModel" := hC
  rw [wp_X9_fails] at hw
  refine V_cast [(0, .ref h0), (1, .int p1)] [] [(h0, .inr (8, [.ref h1, .ref h2, .int n_saved, .ref h3, .long n_hash])), (h1, .inl (E.2.1, 404, .inl a_now)), (h2, .inl (E.2.1, 1212, .inl a_past)), (h3, .inl (E.2.1, 9, .inl a_errors))] [0, 1] [0, 1, 2, 3] rfl rfl rfl rfl ?_
  refine V_aload_n hC 0 rfl rfl dX9_fails_0 ?_
  refine V_get hC inX9 rfl 3 (by decide) wd_614 0 rfl rfl dX9_fails_1 ?_
  refine V_bipush hC (-2) dX9_fails_4 (by decide) ?_
  refine V_iload_n hC 1 rfl rfl dX9_fails_6 ?_
  refine V_isub hC dX9_fails_7 ?_
  refine V_dup2 hC rfl rfl dX9_fails_8 ?_
  refine V_iald hC _ rfl 3 rfl hw.1 dX9_fails_9 ?_
  have hw := hw.2
  refine V_iconst hC 1 dX9_fails_10 (by decide) ?_
  refine V_iadd hC dX9_fails_11 ?_
  refine V_iast hC _ rfl 3 rfl hw.1 dX9_fails_12 (fun f1 ef1 => ?_)
  have hw := hw.2
  have hw := hw f1 ef1
  refine V_ws [(h0, .inr (8, [.ref h1, .ref h2, .int n_saved, .ref h3, .long n_hash])), (h1, .inl (E.2.1, 404, .inl a_now)), (h2, .inl (E.2.1, 1212, .inl a_past)), (h3, .inl (E.2.1, 9, .inl f1))] rfl ?_
  refine V_iload_n hC 1 rfl rfl dX9_fails_13 ?_
  exact V_iret hC hr ⟨p1, f1, rfl, rfl, hw⟩ dX9_fails_14
abbrev po_X9_within (E : EN) (K : Int32 → Prop) : Option Value → va_W → Prop := fun v ws' => ∃ (r0 : Int32), v = some (.int r0) ∧ ws' = [] ∧ K r0
def wp_X9_within (p1 : Int32) (p2 : Int32) (p3 : Int32) (K : Int32 → Prop) : Prop := ((p1 < p2 → K 0) ∧ (¬ (p1 < p2) → ((p3 < p1 → K 0) ∧ (¬ (p3 < p1) → K 1))))
set_option maxRecDepth 100000 in
set_option maxHeartbeats 4000000 in
theorem ct_X9_within (l : Launch) (E : EN) (p1 : Int32) (p2 : Int32) (p3 : Int32) (K : Int32 → Prop) (hw : wp_X9_within p1 p2 p3 K) : Con l yX9_within cX9_within 3 (some .boolean) { frames := 0, cells := 0, slots := 0, locals := 0 } E [.int p1, .int p2, .int p3] [] (po_X9_within E K) := by
  refine Con.mk (by decide +kernel) (Nat.le_of_ble_eq_true rfl) ?_
  intro p e s m below meth c A hC hr hin
  have hC : Cx p s m _ meth c E A cX9_within 3 "CookieServerModel" := hC
  rw [wp_X9_within] at hw
  refine V_cast [(0, .int p1), (1, .int p2), (2, .int p3)] [] [] [0, 1, 2] [] rfl rfl rfl rfl ?_
  refine V_iload_n hC 0 rfl rfl dX9_within_0 ?_
  refine V_iload_n hC 1 rfl rfl dX9_within_1 ?_
  refine V_icmp_lt hC 14 (by decide) dX9_within_2 (fun c1 => ?_) (fun c1 => ?_)
  · have hw := hw.1 c1
    refine V_iconst hC 0 dX9_within_14 (by decide) ?_
    exact V_zret hC hr rfl ⟨0, rfl, rfl, hw⟩ dX9_within_15
  · have hw := hw.2 c1
    refine V_iload_n hC 0 rfl rfl dX9_within_5 ?_
    refine V_iload_n hC 2 rfl rfl dX9_within_6 ?_
    refine V_icmp_gt hC 14 (by decide) dX9_within_7 (fun c2 => ?_) (fun c2 => ?_)
    · have hw := hw.1 c2
      refine V_iconst hC 0 dX9_within_14 (by decide) ?_
      exact V_zret hC hr rfl ⟨0, rfl, rfl, hw⟩ dX9_within_15
    · have hw := hw.2 c2
      refine V_iconst hC 1 dX9_within_10 (by decide) ?_
      refine V_goto hC 15 (by decide) dX9_within_11 ?_
      exact V_zret hC hr rfl ⟨1, rfl, rfl, hw⟩ dX9_within_15
abbrev po_X9_isPort (E : EN) (K : Int32 → Prop) : Option Value → va_W → Prop := fun v ws' => ∃ (r0 : Int32), v = some (.int r0) ∧ ws' = [] ∧ K r0
def wp_X9_isPort (p1 : Int32) (p2 : Int32) (K : Int32 → Prop) : Prop := (wp_X9_within p1 0 15 (fun (r1 : Int32) => ((r1 = 0 → K 0) ∧ (¬ (r1 = 0) → (wp_X9_within p2 0 7 (fun (r3 : Int32) => ((r3 = 0 → K 0) ∧ (¬ (r3 = 0) → K 1))))))))
set_option maxRecDepth 100000 in
set_option maxHeartbeats 4000000 in
theorem ct_X9_isPort (l : Launch) (E : EN) (p1 : Int32) (p2 : Int32) (K : Int32 → Prop) (hw : wp_X9_isPort p1 p2 K) : Con l yX9_isPort cX9_isPort 2 (some .boolean) { frames := 1, cells := 0, slots := 0, locals := 22 } E [.int p1, .int p2] [] (po_X9_isPort E K) := by
  refine Con.mk (by decide +kernel) (Nat.le_of_ble_eq_true rfl) ?_
  intro p e s m below meth c A hC hr hin
  have hC : Cx p s m _ meth c E A cX9_isPort 2 "CookieServerModel" := hC
  rw [wp_X9_isPort] at hw
  refine V_cast [(0, .int p1), (1, .int p2)] [] [] [0, 1] [] rfl rfl rfl rfl ?_
  refine V_iload_n hC 0 rfl rfl dX9_isPort_0 ?_
  refine V_iconst hC 0 dX9_isPort_1 (by decide) ?_
  refine V_bipush hC 15 dX9_isPort_2 (by decide) ?_
  refine V_callS hC (wr := []) 3 [.int p1, .int 0, .int 15] [] (ct_X9_within l E p1 0 15 _ hw) wd_641 wd_40 wd_639 wd_640 (by decide +kernel) rfl ⟨Nat.le_of_ble_eq_true rfl, Nat.le_of_ble_eq_true rfl⟩ [] [] rfl rfl rfl rfl (by decide) rfl (Nat.le_of_ble_eq_true rfl) ⟨Nat.le_of_ble_eq_true rfl, Nat.le_of_ble_eq_true rfl⟩ dX9_isPort_4 (fun v ws' hp => ?_)
  obtain ⟨r1, rfl, rfl, hw⟩ := hp
  refine V_cast [(0, .int p1), (1, .int p2)] [.int r1] [] [0, 1] [] rfl rfl rfl rfl ?_
  refine V_if_eq hC 24 (by decide) dX9_isPort_7 (fun c2 => ?_) (fun c2 => ?_)
  · have hw := hw.1 c2
    refine V_iconst hC 0 dX9_isPort_24 (by decide) ?_
    exact V_zret hC hr rfl ⟨0, rfl, rfl, hw⟩ dX9_isPort_25
  · have hw := hw.2 c2
    refine V_iload_n hC 1 rfl rfl dX9_isPort_10 ?_
    refine V_iconst hC 0 dX9_isPort_11 (by decide) ?_
    refine V_bipush hC 7 dX9_isPort_12 (by decide) ?_
    refine V_callS hC (wr := []) 3 [.int p2, .int 0, .int 7] [] (ct_X9_within l E p2 0 7 _ hw) wd_641 wd_40 wd_639 wd_640 (by decide +kernel) rfl ⟨Nat.le_of_ble_eq_true rfl, Nat.le_of_ble_eq_true rfl⟩ [] [] rfl rfl rfl rfl (by decide) rfl (Nat.le_of_ble_eq_true rfl) ⟨Nat.le_of_ble_eq_true rfl, Nat.le_of_ble_eq_true rfl⟩ dX9_isPort_14 (fun v ws' hp => ?_)
    obtain ⟨r3, rfl, rfl, hw⟩ := hp
    refine V_cast [(0, .int p1), (1, .int p2)] [.int r3] [] [0, 1] [] rfl rfl rfl rfl ?_
    refine V_if_eq hC 24 (by decide) dX9_isPort_17 (fun c4 => ?_) (fun c4 => ?_)
    · have hw := hw.1 c4
      refine V_iconst hC 0 dX9_isPort_24 (by decide) ?_
      exact V_zret hC hr rfl ⟨0, rfl, rfl, hw⟩ dX9_isPort_25
    · have hw := hw.2 c4
      refine V_iconst hC 1 dX9_isPort_20 (by decide) ?_
      refine V_goto hC 25 (by decide) dX9_isPort_21 ?_
      exact V_zret hC hr rfl ⟨1, rfl, rfl, hw⟩ dX9_isPort_25
abbrev po_X9_isClient (E : EN) (K : Int32 → Prop) : Option Value → va_W → Prop := fun v ws' => ∃ (r0 : Int32), v = some (.int r0) ∧ ws' = [] ∧ K r0
def wp_X9_isClient (p1 : Int32) (K : Int32 → Prop) : Prop := (wp_X9_within p1 0 15 (fun (r1 : Int32) => (narrow .boolean (.int r1) = .int r1 ∧ K r1)))
set_option maxRecDepth 100000 in
set_option maxHeartbeats 4000000 in
theorem ct_X9_isClient (l : Launch) (E : EN) (p1 : Int32) (K : Int32 → Prop) (hw : wp_X9_isClient p1 K) : Con l yX9_isClient cX9_isClient 1 (some .boolean) { frames := 1, cells := 0, slots := 0, locals := 22 } E [.int p1] [] (po_X9_isClient E K) := by
  refine Con.mk (by decide +kernel) (Nat.le_of_ble_eq_true rfl) ?_
  intro p e s m below meth c A hC hr hin
  have hC : Cx p s m _ meth c E A cX9_isClient 1 "CookieServerModel" := hC
  rw [wp_X9_isClient] at hw
  refine V_cast [(0, .int p1)] [] [] [0] [] rfl rfl rfl rfl ?_
  refine V_iload_n hC 0 rfl rfl dX9_isClient_0 ?_
  refine V_iconst hC 0 dX9_isClient_1 (by decide) ?_
  refine V_bipush hC 15 dX9_isClient_2 (by decide) ?_
  refine V_callS hC (wr := []) 3 [.int p1, .int 0, .int 15] [] (ct_X9_within l E p1 0 15 _ hw) wd_641 wd_40 wd_639 wd_640 (by decide +kernel) rfl ⟨Nat.le_of_ble_eq_true rfl, Nat.le_of_ble_eq_true rfl⟩ [] [] rfl rfl rfl rfl (by decide) rfl (Nat.le_of_ble_eq_true rfl) ⟨Nat.le_of_ble_eq_true rfl, Nat.le_of_ble_eq_true rfl⟩ dX9_isClient_4 (fun v ws' hp => ?_)
  obtain ⟨r1, rfl, rfl, hw⟩ := hp
  refine V_cast [(0, .int p1)] [.int r1] [] [0] [] rfl rfl rfl rfl ?_
  exact V_zret hC hr hw.1 ⟨r1, rfl, rfl, hw.2⟩ dX9_isClient_7
abbrev po_X9_isCookie (E : EN) (K : Int32 → Prop) : Option Value → va_W → Prop := fun v ws' => ∃ (r0 : Int32), v = some (.int r0) ∧ ws' = [] ∧ K r0
def wp_X9_isCookie (p1 : Int32) (K : Int32 → Prop) : Prop := (wp_X9_within p1 0 1048575 (fun (r1 : Int32) => (narrow .boolean (.int r1) = .int r1 ∧ K r1)))
set_option maxRecDepth 100000 in
set_option maxHeartbeats 4000000 in
theorem ct_X9_isCookie (l : Launch) (E : EN) (p1 : Int32) (K : Int32 → Prop) (hw : wp_X9_isCookie p1 K) : Con l yX9_isCookie cX9_isCookie 1 (some .boolean) { frames := 1, cells := 0, slots := 0, locals := 22 } E [.int p1] [] (po_X9_isCookie E K) := by
  refine Con.mk (by decide +kernel) (Nat.le_of_ble_eq_true rfl) ?_
  intro p e s m below meth c A hC hr hin
  have hC : Cx p s m _ meth c E A cX9_isCookie 1 "CookieServerModel" := hC
  rw [wp_X9_isCookie] at hw
  refine V_cast [(0, .int p1)] [] [] [0] [] rfl rfl rfl rfl ?_
  refine V_iload_n hC 0 rfl rfl dX9_isCookie_0 ?_
  refine V_iconst hC 0 dX9_isCookie_1 (by decide) ?_
  refine V_ldc hC 1048575 wd_716 dX9_isCookie_2 ?_
  refine V_callS hC (wr := []) 3 [.int p1, .int 0, .int 1048575] [] (ct_X9_within l E p1 0 1048575 _ hw) wd_641 wd_40 wd_639 wd_640 (by decide +kernel) rfl ⟨Nat.le_of_ble_eq_true rfl, Nat.le_of_ble_eq_true rfl⟩ [] [] rfl rfl rfl rfl (by decide) rfl (Nat.le_of_ble_eq_true rfl) ⟨Nat.le_of_ble_eq_true rfl, Nat.le_of_ble_eq_true rfl⟩ dX9_isCookie_4 (fun v ws' hp => ?_)
  obtain ⟨r1, rfl, rfl, hw⟩ := hp
  refine V_cast [(0, .int p1)] [.int r1] [] [0] [] rfl rfl rfl rfl ?_
  exact V_zret hC hr hw.1 ⟨r1, rfl, rfl, hw.2⟩ dX9_isCookie_7
abbrev po_X9_saves (E : EN) (h0 : Nat) (h1 : Nat) (h2 : Nat) (h3 : Nat) (a_now : Nat → Int32) (a_errors : Nat → Int32) (n_hash : Int64) (K : (Nat → Int32) → Int32 → Prop) : Option Value → va_W → Prop := fun v ws' => ∃ (a_past : Nat → Int32) (n_saved : Int32), v = none ∧ ws' = [(h0, .inr (8, [.ref h1, .ref h2, .int n_saved, .ref h3, .long n_hash])), (h1, .inl (E.2.1, 404, .inl a_now)), (h2, .inl (E.2.1, 1212, .inl a_past)), (h3, .inl (E.2.1, 9, .inl a_errors))] ∧ K a_past n_saved
def wpl_X9_saves_51 (a_now : Nat → Int32) (a_errors : Nat → Int32) (n_hash : Int64) (K : (Nat → Int32) → Int32 → Prop) : Nat → Int32 → (Nat → Int32) → Int32 → Prop
  | 0, _, _, _ => False
  | n9 + 1, x1, a_past, n_saved => ((404 ≤ x1 → K a_past (n_saved + 1)) ∧ (¬ (404 ≤ x1) → (vp_in x1 404 ∧ (vp_in ((404 * n_saved) + x1) 1212 ∧ (∀ f3 : Nat → Int32, f3 = upd a_past (Int32.toNatClampNeg ((404 * n_saved) + x1)) (a_now (Int32.toNatClampNeg x1)) → wpl_X9_saves_51 a_now a_errors n_hash K n9 (x1 + 1) f3 n_saved)))))
set_option maxRecDepth 100000 in
set_option maxHeartbeats 4000000 in
theorem bl_X9_saves_51 {p : Program} {l : Launch} {e : Env} {s : State} {m : MethodId} {args : Array Value} {below : List Frame} {meth : Method} {c : Code} {E : EN} {A : Nat → Prop} (hC : Cx p s m args meth c E A cX9_saves 2 "CookieServerModel") (hr : meth.sig.returnType = none) (h0 : Nat) (h1 : Nat) (h2 : Nat) (h3 : Nat) (a_now : Nat → Int32) (a_errors : Nat → Int32) (n_hash : Int64) (K : (Nat → Int32) → Int32 → Prop) : ∀ (n8 : Nat) (x1 : Int32) (a_past : Nat → Int32) (n_saved : Int32), wpl_X9_saves_51 a_now a_errors n_hash K n8 x1 a_past n_saved → V p l e { frames := 0, cells := 0, slots := 0, locals := 0 } s m args below meth c E A 2 0 0 (MQ below (QP E (po_X9_saves E h0 h1 h2 h3 a_now a_errors n_hash K) A) args s 0 0 A) 51 [(0, .ref h0), (1, .int x1)] [] [(h0, .inr (8, [.ref h1, .ref h2, .int n_saved, .ref h3, .long n_hash])), (h1, .inl (E.2.1, 404, .inl a_now)), (h2, .inl (E.2.1, 1212, .inl a_past)), (h3, .inl (E.2.1, 9, .inl a_errors))] := by
  intro n8
  induction n8 with
  | zero => intro x1 a_past n_saved hw; rw [wpl_X9_saves_51] at hw; exact hw.elim
  | succ n9 ih =>
    intro x1 a_past n_saved hw
    rw [wpl_X9_saves_51] at hw
    refine V_iload_n hC 1 rfl rfl dX9_saves_51 ?_
    refine V_sipush hC 404 dX9_saves_52 (by decide) ?_
    refine V_icmp_ge hC 85 (by decide) dX9_saves_55 (fun c2 => ?_) (fun c2 => ?_)
    · have hw := hw.1 c2
      refine V_aload_n hC 0 rfl rfl dX9_saves_85 ?_
      refine V_dup hC rfl dX9_saves_86 ?_
      refine V_get hC inX9 rfl 2 (by decide) wd_613 0 rfl rfl dX9_saves_87 ?_
      refine V_iconst hC 1 dX9_saves_90 (by decide) ?_
      refine V_iadd hC dX9_saves_91 ?_
      refine V_put hC [(h0, .inr (8, [.ref h1, .ref h2, .int (n_saved + 1), .ref h3, .long n_hash])), (h1, .inl (E.2.1, 404, .inl a_now)), (h2, .inl (E.2.1, 1212, .inl a_past)), (h3, .inl (E.2.1, 9, .inl a_errors))] inX9 tyX9_ok nmX9 rfl 2 (by decide) wd_613 rfl (ty := .int) (by decide +kernel) rfl rfl 0 rfl (Nat.le_of_ble_eq_true rfl) rfl dX9_saves_92 ?_
      exact V_vret hC hr ⟨a_past, n_saved + 1, rfl, rfl, hw⟩ dX9_saves_95
    · have hw := hw.2 c2
      refine V_aload_n hC 0 rfl rfl dX9_saves_58 ?_
      refine V_get hC inX9 rfl 1 (by decide) wd_612 0 rfl rfl dX9_saves_59 ?_
      refine V_sipush hC 404 dX9_saves_62 (by decide) ?_
      refine V_aload_n hC 0 rfl rfl dX9_saves_65 ?_
      refine V_get hC inX9 rfl 2 (by decide) wd_613 0 rfl rfl dX9_saves_66 ?_
      refine V_imul hC dX9_saves_69 ?_
      refine V_iload_n hC 1 rfl rfl dX9_saves_70 ?_
      refine V_iadd hC dX9_saves_71 ?_
      refine V_aload_n hC 0 rfl rfl dX9_saves_72 ?_
      refine V_get hC inX9 rfl 0 (by decide) wd_611 0 rfl rfl dX9_saves_73 ?_
      refine V_iload_n hC 1 rfl rfl dX9_saves_76 ?_
      refine V_iald hC _ rfl 1 rfl hw.1 dX9_saves_77 ?_
      have hw := hw.2
      refine V_iast hC _ rfl 2 rfl hw.1 dX9_saves_78 (fun f3 ef3 => ?_)
      have hw := hw.2
      have hw := hw f3 ef3
      refine V_ws [(h0, .inr (8, [.ref h1, .ref h2, .int n_saved, .ref h3, .long n_hash])), (h1, .inl (E.2.1, 404, .inl a_now)), (h2, .inl (E.2.1, 1212, .inl f3)), (h3, .inl (E.2.1, 9, .inl a_errors))] rfl ?_
      refine V_iinc hC (x1 + 1) 1 [(1, .int (x1 + 1)), (0, .ref h0)] rfl (congrArg (fun z => x1 + z) (by decide : Int32.ofInt (1) = (1 : Int32))) (by decide) rfl dX9_saves_79 ?_
      refine V_goto hC 51 (by decide) dX9_saves_82 ?_
      refine V_cast [(0, .ref h0), (1, .int (x1 + 1))] [] [(h0, .inr (8, [.ref h1, .ref h2, .int n_saved, .ref h3, .long n_hash])), (h1, .inl (E.2.1, 404, .inl a_now)), (h2, .inl (E.2.1, 1212, .inl f3)), (h3, .inl (E.2.1, 9, .inl a_errors))] [1, 0] [0, 1, 2, 3] rfl rfl rfl rfl ?_
      exact ih (x1 + 1) f3 n_saved hw
def wpl_X9_saves_10 (a_now : Nat → Int32) (a_errors : Nat → Int32) (n_hash : Int64) (K : (Nat → Int32) → Int32 → Prop) : Nat → Int32 → (Nat → Int32) → Int32 → Prop
  | 0, _, _, _ => False
  | n9 + 1, x1, a_past, n_saved => ((808 ≤ x1 → (∃ n8 : Nat, wpl_X9_saves_51 a_now a_errors n_hash K n8 0 a_past (n_saved - 1))) ∧ (¬ (808 ≤ x1) → (vp_in (x1 + 404) 1212 ∧ (vp_in x1 1212 ∧ (∀ f5 : Nat → Int32, f5 = upd a_past (Int32.toNatClampNeg x1) (a_past (Int32.toNatClampNeg (x1 + 404))) → wpl_X9_saves_10 a_now a_errors n_hash K n9 (x1 + 1) f5 n_saved)))))
set_option maxRecDepth 100000 in
set_option maxHeartbeats 4000000 in
theorem bl_X9_saves_10 {p : Program} {l : Launch} {e : Env} {s : State} {m : MethodId} {args : Array Value} {below : List Frame} {meth : Method} {c : Code} {E : EN} {A : Nat → Prop} (hC : Cx p s m args meth c E A cX9_saves 2 "CookieServerModel") (hr : meth.sig.returnType = none) (h0 : Nat) (h1 : Nat) (h2 : Nat) (h3 : Nat) (a_now : Nat → Int32) (a_errors : Nat → Int32) (n_hash : Int64) (K : (Nat → Int32) → Int32 → Prop) : ∀ (n8 : Nat) (x1 : Int32) (a_past : Nat → Int32) (n_saved : Int32), wpl_X9_saves_10 a_now a_errors n_hash K n8 x1 a_past n_saved → V p l e { frames := 0, cells := 0, slots := 0, locals := 0 } s m args below meth c E A 2 0 0 (MQ below (QP E (po_X9_saves E h0 h1 h2 h3 a_now a_errors n_hash K) A) args s 0 0 A) 10 [(0, .ref h0), (1, .int x1)] [] [(h0, .inr (8, [.ref h1, .ref h2, .int n_saved, .ref h3, .long n_hash])), (h1, .inl (E.2.1, 404, .inl a_now)), (h2, .inl (E.2.1, 1212, .inl a_past)), (h3, .inl (E.2.1, 9, .inl a_errors))] := by
  intro n8
  induction n8 with
  | zero => intro x1 a_past n_saved hw; rw [wpl_X9_saves_10] at hw; exact hw.elim
  | succ n9 ih =>
    intro x1 a_past n_saved hw
    rw [wpl_X9_saves_10] at hw
    refine V_iload_n hC 1 rfl rfl dX9_saves_10 ?_
    refine V_sipush hC 808 dX9_saves_11 (by decide) ?_
    refine V_icmp_ge hC 39 (by decide) dX9_saves_14 (fun c4 => ?_) (fun c4 => ?_)
    · have hw := hw.1 c4
      refine V_aload_n hC 0 rfl rfl dX9_saves_39 ?_
      refine V_dup hC rfl dX9_saves_40 ?_
      refine V_get hC inX9 rfl 2 (by decide) wd_613 0 rfl rfl dX9_saves_41 ?_
      refine V_iconst hC 1 dX9_saves_44 (by decide) ?_
      refine V_isub hC dX9_saves_45 ?_
      refine V_put hC [(h0, .inr (8, [.ref h1, .ref h2, .int (n_saved - 1), .ref h3, .long n_hash])), (h1, .inl (E.2.1, 404, .inl a_now)), (h2, .inl (E.2.1, 1212, .inl a_past)), (h3, .inl (E.2.1, 9, .inl a_errors))] inX9 tyX9_ok nmX9 rfl 2 (by decide) wd_613 rfl (ty := .int) (by decide +kernel) rfl rfl 0 rfl (Nat.le_of_ble_eq_true rfl) rfl dX9_saves_46 ?_
      refine V_iconst hC 0 dX9_saves_49 (by decide) ?_
      refine V_istore_n hC [(1, .int 0), (0, .ref h0)] rfl (by decide) rfl dX9_saves_50 ?_
      refine V_cast [(0, .ref h0), (1, .int 0)] [] [(h0, .inr (8, [.ref h1, .ref h2, .int (n_saved - 1), .ref h3, .long n_hash])), (h1, .inl (E.2.1, 404, .inl a_now)), (h2, .inl (E.2.1, 1212, .inl a_past)), (h3, .inl (E.2.1, 9, .inl a_errors))] [1, 0] [0, 1, 2, 3] rfl rfl rfl rfl ?_
      obtain ⟨n8, hw⟩ := hw
      exact bl_X9_saves_51 hC hr h0 h1 h2 h3 a_now a_errors n_hash K n8 0 a_past (n_saved - 1) hw
    · have hw := hw.2 c4
      refine V_aload_n hC 0 rfl rfl dX9_saves_17 ?_
      refine V_get hC inX9 rfl 1 (by decide) wd_612 0 rfl rfl dX9_saves_18 ?_
      refine V_iload_n hC 1 rfl rfl dX9_saves_21 ?_
      refine V_aload_n hC 0 rfl rfl dX9_saves_22 ?_
      refine V_get hC inX9 rfl 1 (by decide) wd_612 0 rfl rfl dX9_saves_23 ?_
      refine V_iload_n hC 1 rfl rfl dX9_saves_26 ?_
      refine V_sipush hC 404 dX9_saves_27 (by decide) ?_
      refine V_iadd hC dX9_saves_30 ?_
      refine V_iald hC _ rfl 2 rfl hw.1 dX9_saves_31 ?_
      have hw := hw.2
      refine V_iast hC _ rfl 2 rfl hw.1 dX9_saves_32 (fun f5 ef5 => ?_)
      have hw := hw.2
      have hw := hw f5 ef5
      refine V_ws [(h0, .inr (8, [.ref h1, .ref h2, .int n_saved, .ref h3, .long n_hash])), (h1, .inl (E.2.1, 404, .inl a_now)), (h2, .inl (E.2.1, 1212, .inl f5)), (h3, .inl (E.2.1, 9, .inl a_errors))] rfl ?_
      refine V_iinc hC (x1 + 1) 1 [(1, .int (x1 + 1)), (0, .ref h0)] rfl (congrArg (fun z => x1 + z) (by decide : Int32.ofInt (1) = (1 : Int32))) (by decide) rfl dX9_saves_33 ?_
      refine V_goto hC 10 (by decide) dX9_saves_36 ?_
      refine V_cast [(0, .ref h0), (1, .int (x1 + 1))] [] [(h0, .inr (8, [.ref h1, .ref h2, .int n_saved, .ref h3, .long n_hash])), (h1, .inl (E.2.1, 404, .inl a_now)), (h2, .inl (E.2.1, 1212, .inl f5)), (h3, .inl (E.2.1, 9, .inl a_errors))] [1, 0] [0, 1, 2, 3] rfl rfl rfl rfl ?_
      exact ih (x1 + 1) f5 n_saved hw
def wp_X9_saves (a_now : Nat → Int32) (a_past : Nat → Int32) (n_saved : Int32) (a_errors : Nat → Int32) (n_hash : Int64) (K : (Nat → Int32) → Int32 → Prop) : Prop := ((¬ n_saved = 3 → (∃ n8 : Nat, wpl_X9_saves_51 a_now a_errors n_hash K n8 0 a_past n_saved)) ∧ (n_saved = 3 → (∃ n8 : Nat, wpl_X9_saves_10 a_now a_errors n_hash K n8 0 a_past n_saved)))
set_option maxRecDepth 100000 in
set_option maxHeartbeats 4000000 in
theorem ct_X9_saves (l : Launch) (E : EN) (h0 : Nat) (h1 : Nat) (h2 : Nat) (h3 : Nat) (a_now : Nat → Int32) (a_past : Nat → Int32) (n_saved : Int32) (a_errors : Nat → Int32) (n_hash : Int64) (K : (Nat → Int32) → Int32 → Prop) (hw : wp_X9_saves a_now a_past n_saved a_errors n_hash K) : Con l yX9_saves cX9_saves 2 (none) { frames := 0, cells := 0, slots := 0, locals := 0 } E [.ref h0] [(h0, .inr (8, [.ref h1, .ref h2, .int n_saved, .ref h3, .long n_hash])), (h1, .inl (E.2.1, 404, .inl a_now)), (h2, .inl (E.2.1, 1212, .inl a_past)), (h3, .inl (E.2.1, 9, .inl a_errors))] (po_X9_saves E h0 h1 h2 h3 a_now a_errors n_hash K) := by
  refine Con.mk (by decide +kernel) (Nat.le_of_ble_eq_true rfl) ?_
  intro p e s m below meth c A hC hr hin
  have hC : Cx p s m _ meth c E A cX9_saves 2 "CookieServerModel" := hC
  rw [wp_X9_saves] at hw
  refine V_cast [(0, .ref h0)] [] [(h0, .inr (8, [.ref h1, .ref h2, .int n_saved, .ref h3, .long n_hash])), (h1, .inl (E.2.1, 404, .inl a_now)), (h2, .inl (E.2.1, 1212, .inl a_past)), (h3, .inl (E.2.1, 9, .inl a_errors))] [0] [0, 1, 2, 3] rfl rfl rfl rfl ?_
  refine V_aload_n hC 0 rfl rfl dX9_saves_0 ?_
  refine V_get hC inX9 rfl 2 (by decide) wd_613 0 rfl rfl dX9_saves_1 ?_
  refine V_iconst hC 3 dX9_saves_4 (by decide) ?_
  refine V_icmp_ne hC 49 (by decide) dX9_saves_5 (fun c1 => ?_) (fun c1 => ?_)
  · have hw := hw.1 c1
    refine V_iconst hC 0 dX9_saves_49 (by decide) ?_
    refine V_istore_n hC [(1, .int 0), (0, .ref h0)] rfl (by decide) rfl dX9_saves_50 ?_
    refine V_cast [(0, .ref h0), (1, .int 0)] [] [(h0, .inr (8, [.ref h1, .ref h2, .int n_saved, .ref h3, .long n_hash])), (h1, .inl (E.2.1, 404, .inl a_now)), (h2, .inl (E.2.1, 1212, .inl a_past)), (h3, .inl (E.2.1, 9, .inl a_errors))] [1, 0] [0, 1, 2, 3] rfl rfl rfl rfl ?_
    obtain ⟨n8, hw⟩ := hw
    exact bl_X9_saves_51 hC hr h0 h1 h2 h3 a_now a_errors n_hash K n8 0 a_past n_saved hw
  · have hw := hw.2 c1
    refine V_iconst hC 0 dX9_saves_8 (by decide) ?_
    refine V_istore_n hC [(1, .int 0), (0, .ref h0)] rfl (by decide) rfl dX9_saves_9 ?_
    refine V_cast [(0, .ref h0), (1, .int 0)] [] [(h0, .inr (8, [.ref h1, .ref h2, .int n_saved, .ref h3, .long n_hash])), (h1, .inl (E.2.1, 404, .inl a_now)), (h2, .inl (E.2.1, 1212, .inl a_past)), (h3, .inl (E.2.1, 9, .inl a_errors))] [1, 0] [0, 1, 2, 3] rfl rfl rfl rfl ?_
    obtain ⟨n8, hw⟩ := hw
    exact bl_X9_saves_10 hC hr h0 h1 h2 h3 a_now a_errors n_hash K n8 0 a_past n_saved hw
abbrev po_X9_undo (E : EN) (h0 : Nat) (h1 : Nat) (h2 : Nat) (h3 : Nat) (a_past : Nat → Int32) (n_hash : Int64) (K : Int32 → (Nat → Int32) → Int32 → (Nat → Int32) → Prop) : Option Value → va_W → Prop := fun v ws' => ∃ (r0 : Int32) (a_now : Nat → Int32) (n_saved : Int32) (a_errors : Nat → Int32), v = some (.int r0) ∧ ws' = [(h0, .inr (8, [.ref h1, .ref h2, .int n_saved, .ref h3, .long n_hash])), (h1, .inl (E.2.1, 404, .inl a_now)), (h2, .inl (E.2.1, 1212, .inl a_past)), (h3, .inl (E.2.1, 9, .inl a_errors))] ∧ K r0 a_now n_saved a_errors
def wpl_X9_undo_26 (a_past : Nat → Int32) (n_hash : Int64) (K : Int32 → (Nat → Int32) → Int32 → (Nat → Int32) → Prop) : Nat → Int32 → (Nat → Int32) → Int32 → (Nat → Int32) → Prop
  | 0, _, _, _, _ => False
  | n9 + 1, x1, a_now, n_saved, a_errors => ((404 ≤ x1 → K n_saved a_now n_saved a_errors) ∧ (¬ (404 ≤ x1) → (vp_in ((404 * n_saved) + x1) 1212 ∧ (vp_in x1 404 ∧ (∀ f3 : Nat → Int32, f3 = upd a_now (Int32.toNatClampNeg x1) (a_past (Int32.toNatClampNeg ((404 * n_saved) + x1))) → wpl_X9_undo_26 a_past n_hash K n9 (x1 + 1) f3 n_saved a_errors)))))
set_option maxRecDepth 100000 in
set_option maxHeartbeats 4000000 in
theorem bl_X9_undo_26 {p : Program} {l : Launch} {e : Env} {s : State} {m : MethodId} {args : Array Value} {below : List Frame} {meth : Method} {c : Code} {E : EN} {A : Nat → Prop} (hC : Cx p s m args meth c E A cX9_undo 2 "CookieServerModel") (hr : meth.sig.returnType = some .int) (h0 : Nat) (h1 : Nat) (h2 : Nat) (h3 : Nat) (a_past : Nat → Int32) (n_hash : Int64) (K : Int32 → (Nat → Int32) → Int32 → (Nat → Int32) → Prop) : ∀ (n8 : Nat) (x1 : Int32) (a_now : Nat → Int32) (n_saved : Int32) (a_errors : Nat → Int32), wpl_X9_undo_26 a_past n_hash K n8 x1 a_now n_saved a_errors → V p l e { frames := 1, cells := 0, slots := 0, locals := 21 } s m args below meth c E A 2 0 0 (MQ below (QP E (po_X9_undo E h0 h1 h2 h3 a_past n_hash K) A) args s 0 0 A) 26 [(0, .ref h0), (1, .int x1)] [] [(h0, .inr (8, [.ref h1, .ref h2, .int n_saved, .ref h3, .long n_hash])), (h1, .inl (E.2.1, 404, .inl a_now)), (h2, .inl (E.2.1, 1212, .inl a_past)), (h3, .inl (E.2.1, 9, .inl a_errors))] := by
  intro n8
  induction n8 with
  | zero => intro x1 a_now n_saved a_errors hw; rw [wpl_X9_undo_26] at hw; exact hw.elim
  | succ n9 ih =>
    intro x1 a_now n_saved a_errors hw
    rw [wpl_X9_undo_26] at hw
    refine V_iload_n hC 1 rfl rfl dX9_undo_26 ?_
    refine V_sipush hC 404 dX9_undo_27 (by decide) ?_
    refine V_icmp_ge hC 60 (by decide) dX9_undo_30 (fun c2 => ?_) (fun c2 => ?_)
    · have hw := hw.1 c2
      refine V_aload_n hC 0 rfl rfl dX9_undo_60 ?_
      refine V_get hC inX9 rfl 2 (by decide) wd_613 0 rfl rfl dX9_undo_61 ?_
      exact V_iret hC hr ⟨n_saved, a_now, n_saved, a_errors, rfl, rfl, hw⟩ dX9_undo_64
    · have hw := hw.2 c2
      refine V_aload_n hC 0 rfl rfl dX9_undo_33 ?_
      refine V_get hC inX9 rfl 0 (by decide) wd_611 0 rfl rfl dX9_undo_34 ?_
      refine V_iload_n hC 1 rfl rfl dX9_undo_37 ?_
      refine V_aload_n hC 0 rfl rfl dX9_undo_38 ?_
      refine V_get hC inX9 rfl 1 (by decide) wd_612 0 rfl rfl dX9_undo_39 ?_
      refine V_sipush hC 404 dX9_undo_42 (by decide) ?_
      refine V_aload_n hC 0 rfl rfl dX9_undo_45 ?_
      refine V_get hC inX9 rfl 2 (by decide) wd_613 0 rfl rfl dX9_undo_46 ?_
      refine V_imul hC dX9_undo_49 ?_
      refine V_iload_n hC 1 rfl rfl dX9_undo_50 ?_
      refine V_iadd hC dX9_undo_51 ?_
      refine V_iald hC _ rfl 2 rfl hw.1 dX9_undo_52 ?_
      have hw := hw.2
      refine V_iast hC _ rfl 1 rfl hw.1 dX9_undo_53 (fun f3 ef3 => ?_)
      have hw := hw.2
      have hw := hw f3 ef3
      refine V_ws [(h0, .inr (8, [.ref h1, .ref h2, .int n_saved, .ref h3, .long n_hash])), (h1, .inl (E.2.1, 404, .inl f3)), (h2, .inl (E.2.1, 1212, .inl a_past)), (h3, .inl (E.2.1, 9, .inl a_errors))] rfl ?_
      refine V_iinc hC (x1 + 1) 1 [(1, .int (x1 + 1)), (0, .ref h0)] rfl (congrArg (fun z => x1 + z) (by decide : Int32.ofInt (1) = (1 : Int32))) (by decide) rfl dX9_undo_54 ?_
      refine V_goto hC 26 (by decide) dX9_undo_57 ?_
      refine V_cast [(0, .ref h0), (1, .int (x1 + 1))] [] [(h0, .inr (8, [.ref h1, .ref h2, .int n_saved, .ref h3, .long n_hash])), (h1, .inl (E.2.1, 404, .inl f3)), (h2, .inl (E.2.1, 1212, .inl a_past)), (h3, .inl (E.2.1, 9, .inl a_errors))] [1, 0] [0, 1, 2, 3] rfl rfl rfl rfl ?_
      exact ih (x1 + 1) f3 n_saved a_errors hw
def wp_X9_undo (a_now : Nat → Int32) (a_past : Nat → Int32) (n_saved : Int32) (a_errors : Nat → Int32) (n_hash : Int64) (K : Int32 → (Nat → Int32) → Int32 → (Nat → Int32) → Prop) : Prop := ((¬ n_saved = 0 → (∃ n8 : Nat, wpl_X9_undo_26 a_past n_hash K n8 0 a_now (n_saved - 1) a_errors)) ∧ (n_saved = 0 → (wp_X9_fails a_now a_past n_saved a_errors n_hash (-10) (fun (r4 : Int32) (g5 : Nat → Int32) => K r4 a_now n_saved g5))))
set_option maxRecDepth 100000 in
set_option maxHeartbeats 4000000 in
theorem ct_X9_undo (l : Launch) (E : EN) (h0 : Nat) (h1 : Nat) (h2 : Nat) (h3 : Nat) (a_now : Nat → Int32) (a_past : Nat → Int32) (n_saved : Int32) (a_errors : Nat → Int32) (n_hash : Int64) (K : Int32 → (Nat → Int32) → Int32 → (Nat → Int32) → Prop) (hw : wp_X9_undo a_now a_past n_saved a_errors n_hash K) : Con l yX9_undo cX9_undo 2 (some .int) { frames := 1, cells := 0, slots := 0, locals := 21 } E [.ref h0] [(h0, .inr (8, [.ref h1, .ref h2, .int n_saved, .ref h3, .long n_hash])), (h1, .inl (E.2.1, 404, .inl a_now)), (h2, .inl (E.2.1, 1212, .inl a_past)), (h3, .inl (E.2.1, 9, .inl a_errors))] (po_X9_undo E h0 h1 h2 h3 a_past n_hash K) := by
  refine Con.mk (by decide +kernel) (Nat.le_of_ble_eq_true rfl) ?_
  intro p e s m below meth c A hC hr hin
  have hC : Cx p s m _ meth c E A cX9_undo 2 "CookieServerModel" := hC
  rw [wp_X9_undo] at hw
  refine V_cast [(0, .ref h0)] [] [(h0, .inr (8, [.ref h1, .ref h2, .int n_saved, .ref h3, .long n_hash])), (h1, .inl (E.2.1, 404, .inl a_now)), (h2, .inl (E.2.1, 1212, .inl a_past)), (h3, .inl (E.2.1, 9, .inl a_errors))] [0] [0, 1, 2, 3] rfl rfl rfl rfl ?_
  refine V_aload_n hC 0 rfl rfl dX9_undo_0 ?_
  refine V_get hC inX9 rfl 2 (by decide) wd_613 0 rfl rfl dX9_undo_1 ?_
  refine V_if_ne hC 14 (by decide) dX9_undo_4 (fun c1 => ?_) (fun c1 => ?_)
  · have hw := hw.1 c1
    refine V_aload_n hC 0 rfl rfl dX9_undo_14 ?_
    refine V_dup hC rfl dX9_undo_15 ?_
    refine V_get hC inX9 rfl 2 (by decide) wd_613 0 rfl rfl dX9_undo_16 ?_
    refine V_iconst hC 1 dX9_undo_19 (by decide) ?_
    refine V_isub hC dX9_undo_20 ?_
    refine V_put hC [(h0, .inr (8, [.ref h1, .ref h2, .int (n_saved - 1), .ref h3, .long n_hash])), (h1, .inl (E.2.1, 404, .inl a_now)), (h2, .inl (E.2.1, 1212, .inl a_past)), (h3, .inl (E.2.1, 9, .inl a_errors))] inX9 tyX9_ok nmX9 rfl 2 (by decide) wd_613 rfl (ty := .int) (by decide +kernel) rfl rfl 0 rfl (Nat.le_of_ble_eq_true rfl) rfl dX9_undo_21 ?_
    refine V_iconst hC 0 dX9_undo_24 (by decide) ?_
    refine V_istore_n hC [(1, .int 0), (0, .ref h0)] rfl (by decide) rfl dX9_undo_25 ?_
    refine V_cast [(0, .ref h0), (1, .int 0)] [] [(h0, .inr (8, [.ref h1, .ref h2, .int (n_saved - 1), .ref h3, .long n_hash])), (h1, .inl (E.2.1, 404, .inl a_now)), (h2, .inl (E.2.1, 1212, .inl a_past)), (h3, .inl (E.2.1, 9, .inl a_errors))] [1, 0] [0, 1, 2, 3] rfl rfl rfl rfl ?_
    obtain ⟨n8, hw⟩ := hw
    exact bl_X9_undo_26 hC hr h0 h1 h2 h3 a_past n_hash K n8 0 a_now (n_saved - 1) a_errors hw
  · have hw := hw.2 c1
    refine V_aload_n hC 0 rfl rfl dX9_undo_7 ?_
    refine V_bipush hC (-10) dX9_undo_8 (by decide) ?_
    refine V_callV hC (wr := []) 1 [.int (-10)] [] (ct_X9_fails l E h0 h1 h2 h3 a_now a_past n_saved a_errors n_hash (-10) _ hw) wd_634 wd_40 wd_631 wd_633 wd_12 (by decide +kernel) rfl ⟨Nat.le_of_ble_eq_true rfl, Nat.le_of_ble_eq_true rfl⟩ [0, 1, 2, 3] [] rfl rfl rfl rfl (by decide) rfl rfl rfl (Nat.le_of_ble_eq_true rfl) ⟨Nat.le_of_ble_eq_true rfl, Nat.le_of_ble_eq_true rfl⟩ dX9_undo_10 (fun v ws' hp => ?_)
    obtain ⟨r4, g5, rfl, rfl, hw⟩ := hp
    refine V_cast [(0, .ref h0)] [.int r4] [(h0, .inr (8, [.ref h1, .ref h2, .int n_saved, .ref h3, .long n_hash])), (h1, .inl (E.2.1, 404, .inl a_now)), (h2, .inl (E.2.1, 1212, .inl a_past)), (h3, .inl (E.2.1, 9, .inl g5))] [0] [0, 1, 2, 3] rfl rfl rfl rfl ?_
    exact V_iret hC hr ⟨r4, a_now, n_saved, g5, rfl, rfl, hw⟩ dX9_undo_13
abbrev po_X9_epochNow (E : EN) (h0 : Nat) (h1 : Nat) (h2 : Nat) (h3 : Nat) (a_now : Nat → Int32) (a_past : Nat → Int32) (n_saved : Int32) (a_errors : Nat → Int32) (n_hash : Int64) (K : Int32 → Prop) : Option Value → va_W → Prop := fun v ws' => ∃ (r0 : Int32), v = some (.int r0) ∧ ws' = [(h0, .inr (8, [.ref h1, .ref h2, .int n_saved, .ref h3, .long n_hash])), (h1, .inl (E.2.1, 404, .inl a_now)), (h2, .inl (E.2.1, 1212, .inl a_past)), (h3, .inl (E.2.1, 9, .inl a_errors))] ∧ K r0
def wp_X9_epochNow (a_now : Nat → Int32) (a_past : Nat → Int32) (n_saved : Int32) (a_errors : Nat → Int32) (n_hash : Int64) (K : Int32 → Prop) : Prop := K ((a_now 0) / 64)
set_option maxRecDepth 100000 in
set_option maxHeartbeats 4000000 in
theorem ct_X9_epochNow (l : Launch) (E : EN) (h0 : Nat) (h1 : Nat) (h2 : Nat) (h3 : Nat) (a_now : Nat → Int32) (a_past : Nat → Int32) (n_saved : Int32) (a_errors : Nat → Int32) (n_hash : Int64) (K : Int32 → Prop) (hw : wp_X9_epochNow a_now a_past n_saved a_errors n_hash K) : Con l yX9_epochNow cX9_epochNow 1 (some .int) { frames := 0, cells := 0, slots := 0, locals := 0 } E [.ref h0] [(h0, .inr (8, [.ref h1, .ref h2, .int n_saved, .ref h3, .long n_hash])), (h1, .inl (E.2.1, 404, .inl a_now)), (h2, .inl (E.2.1, 1212, .inl a_past)), (h3, .inl (E.2.1, 9, .inl a_errors))] (po_X9_epochNow E h0 h1 h2 h3 a_now a_past n_saved a_errors n_hash K) := by
  refine Con.mk (by decide +kernel) (Nat.le_of_ble_eq_true rfl) ?_
  intro p e s m below meth c A hC hr hin
  have hC : Cx p s m _ meth c E A cX9_epochNow 1 "CookieServerModel" := hC
  rw [wp_X9_epochNow] at hw
  refine V_cast [(0, .ref h0)] [] [(h0, .inr (8, [.ref h1, .ref h2, .int n_saved, .ref h3, .long n_hash])), (h1, .inl (E.2.1, 404, .inl a_now)), (h2, .inl (E.2.1, 1212, .inl a_past)), (h3, .inl (E.2.1, 9, .inl a_errors))] [0] [0, 1, 2, 3] rfl rfl rfl rfl ?_
  refine V_aload_n hC 0 rfl rfl dX9_epochNow_0 ?_
  refine V_get hC inX9 rfl 0 (by decide) wd_611 0 rfl rfl dX9_epochNow_1 ?_
  refine V_iconst hC 0 dX9_epochNow_4 (by decide) ?_
  refine V_iald hC 0 (by decide) 1 rfl (by unfold vp_in; decide) dX9_epochNow_5 ?_
  refine V_bipush hC 64 dX9_epochNow_6 (by decide) ?_
  refine V_idiv hC (by decide) dX9_epochNow_8 ?_
  exact V_iret hC hr ⟨(a_now 0) / 64, rfl, rfl, hw⟩ dX9_epochNow_9
abbrev po_X9_stampOf (E : EN) (K : Int32 → Prop) : Option Value → va_W → Prop := fun v ws' => ∃ (r0 : Int32), v = some (.int r0) ∧ ws' = [] ∧ K r0
def wp_X9_stampOf (p1 : Int32) (K : Int32 → Prop) : Prop := K (p1 / 32768)
set_option maxRecDepth 100000 in
set_option maxHeartbeats 4000000 in
theorem ct_X9_stampOf (l : Launch) (E : EN) (p1 : Int32) (K : Int32 → Prop) (hw : wp_X9_stampOf p1 K) : Con l yX9_stampOf cX9_stampOf 1 (some .int) { frames := 0, cells := 0, slots := 0, locals := 0 } E [.int p1] [] (po_X9_stampOf E K) := by
  refine Con.mk (by decide +kernel) (Nat.le_of_ble_eq_true rfl) ?_
  intro p e s m below meth c A hC hr hin
  have hC : Cx p s m _ meth c E A cX9_stampOf 1 "CookieServerModel" := hC
  rw [wp_X9_stampOf] at hw
  refine V_cast [(0, .int p1)] [] [] [0] [] rfl rfl rfl rfl ?_
  refine V_iload_n hC 0 rfl rfl dX9_stampOf_0 ?_
  refine V_ldc hC 32768 wd_665 dX9_stampOf_1 ?_
  refine V_idiv hC (by decide) dX9_stampOf_3 ?_
  exact V_iret hC hr ⟨p1 / 32768, rfl, rfl, hw⟩ dX9_stampOf_4
abbrev po_X9_optionOf (E : EN) (K : Int32 → Prop) : Option Value → va_W → Prop := fun v ws' => ∃ (r0 : Int32), v = some (.int r0) ∧ ws' = [] ∧ K r0
def wp_X9_optionOf (p1 : Int32) (K : Int32 → Prop) : Prop := K (jrem (p1 / 4096) 8)
set_option maxRecDepth 100000 in
set_option maxHeartbeats 4000000 in
theorem ct_X9_optionOf (l : Launch) (E : EN) (p1 : Int32) (K : Int32 → Prop) (hw : wp_X9_optionOf p1 K) : Con l yX9_optionOf cX9_optionOf 1 (some .int) { frames := 0, cells := 0, slots := 0, locals := 0 } E [.int p1] [] (po_X9_optionOf E K) := by
  refine Con.mk (by decide +kernel) (Nat.le_of_ble_eq_true rfl) ?_
  intro p e s m below meth c A hC hr hin
  have hC : Cx p s m _ meth c E A cX9_optionOf 1 "CookieServerModel" := hC
  rw [wp_X9_optionOf] at hw
  refine V_cast [(0, .int p1)] [] [] [0] [] rfl rfl rfl rfl ?_
  refine V_iload_n hC 0 rfl rfl dX9_optionOf_0 ?_
  refine V_sipush hC 4096 dX9_optionOf_1 (by decide) ?_
  refine V_idiv hC (by decide) dX9_optionOf_4 ?_
  refine V_bipush hC 8 dX9_optionOf_5 (by decide) ?_
  refine V_irem hC (by decide) dX9_optionOf_7 ?_
  exact V_iret hC hr ⟨jrem (p1 / 4096) 8, rfl, rfl, hw⟩ dX9_optionOf_8
abbrev po_X9_ageOf (E : EN) (h0 : Nat) (h1 : Nat) (h2 : Nat) (h3 : Nat) (a_now : Nat → Int32) (a_past : Nat → Int32) (n_saved : Int32) (a_errors : Nat → Int32) (n_hash : Int64) (K : Int32 → Prop) : Option Value → va_W → Prop := fun v ws' => ∃ (r0 : Int32), v = some (.int r0) ∧ ws' = [(h0, .inr (8, [.ref h1, .ref h2, .int n_saved, .ref h3, .long n_hash])), (h1, .inl (E.2.1, 404, .inl a_now)), (h2, .inl (E.2.1, 1212, .inl a_past)), (h3, .inl (E.2.1, 9, .inl a_errors))] ∧ K r0
def wp_X9_ageOf (a_now : Nat → Int32) (a_past : Nat → Int32) (n_saved : Int32) (a_errors : Nat → Int32) (n_hash : Int64) (p1 : Int32) (K : Int32 → Prop) : Prop := (wp_X9_epochNow a_now a_past n_saved a_errors n_hash (fun (r1 : Int32) => (wp_X9_stampOf p1 (fun (r2 : Int32) => K (jrem (((jrem r1 32) + 32) - r2) 32)))))
set_option maxRecDepth 100000 in
set_option maxHeartbeats 4000000 in
theorem ct_X9_ageOf (l : Launch) (E : EN) (h0 : Nat) (h1 : Nat) (h2 : Nat) (h3 : Nat) (a_now : Nat → Int32) (a_past : Nat → Int32) (n_saved : Int32) (a_errors : Nat → Int32) (n_hash : Int64) (p1 : Int32) (K : Int32 → Prop) (hw : wp_X9_ageOf a_now a_past n_saved a_errors n_hash p1 K) : Con l yX9_ageOf cX9_ageOf 2 (some .int) { frames := 1, cells := 0, slots := 0, locals := 20 } E [.ref h0, .int p1] [(h0, .inr (8, [.ref h1, .ref h2, .int n_saved, .ref h3, .long n_hash])), (h1, .inl (E.2.1, 404, .inl a_now)), (h2, .inl (E.2.1, 1212, .inl a_past)), (h3, .inl (E.2.1, 9, .inl a_errors))] (po_X9_ageOf E h0 h1 h2 h3 a_now a_past n_saved a_errors n_hash K) := by
  refine Con.mk (by decide +kernel) (Nat.le_of_ble_eq_true rfl) ?_
  intro p e s m below meth c A hC hr hin
  have hC : Cx p s m _ meth c E A cX9_ageOf 2 "CookieServerModel" := hC
  rw [wp_X9_ageOf] at hw
  refine V_cast [(0, .ref h0), (1, .int p1)] [] [(h0, .inr (8, [.ref h1, .ref h2, .int n_saved, .ref h3, .long n_hash])), (h1, .inl (E.2.1, 404, .inl a_now)), (h2, .inl (E.2.1, 1212, .inl a_past)), (h3, .inl (E.2.1, 9, .inl a_errors))] [0, 1] [0, 1, 2, 3] rfl rfl rfl rfl ?_
  refine V_aload_n hC 0 rfl rfl dX9_ageOf_0 ?_
  refine V_callV hC (wr := []) 0 [] [] (ct_X9_epochNow l E h0 h1 h2 h3 a_now a_past n_saved a_errors n_hash _ hw) wd_661 wd_40 wd_658 wd_660 wd_17 (by decide +kernel) rfl ⟨Nat.le_of_ble_eq_true rfl, Nat.le_of_ble_eq_true rfl⟩ [0, 1, 2, 3] [] rfl rfl rfl rfl (by decide) rfl rfl rfl (Nat.le_of_ble_eq_true rfl) ⟨Nat.le_of_ble_eq_true rfl, Nat.le_of_ble_eq_true rfl⟩ dX9_ageOf_1 (fun v ws' hp => ?_)
  obtain ⟨r1, rfl, rfl, hw⟩ := hp
  refine V_cast [(0, .ref h0), (1, .int p1)] [.int r1] [(h0, .inr (8, [.ref h1, .ref h2, .int n_saved, .ref h3, .long n_hash])), (h1, .inl (E.2.1, 404, .inl a_now)), (h2, .inl (E.2.1, 1212, .inl a_past)), (h3, .inl (E.2.1, 9, .inl a_errors))] [0, 1] [0, 1, 2, 3] rfl rfl rfl rfl ?_
  refine V_bipush hC 32 dX9_ageOf_4 (by decide) ?_
  refine V_irem hC (by decide) dX9_ageOf_6 ?_
  refine V_bipush hC 32 dX9_ageOf_7 (by decide) ?_
  refine V_iadd hC dX9_ageOf_9 ?_
  refine V_iload_n hC 1 rfl rfl dX9_ageOf_10 ?_
  refine V_callS hC (wr := [(h0, .inr (8, [.ref h1, .ref h2, .int n_saved, .ref h3, .long n_hash])), (h1, .inl (E.2.1, 404, .inl a_now)), (h2, .inl (E.2.1, 1212, .inl a_past)), (h3, .inl (E.2.1, 9, .inl a_errors))]) 1 [.int p1] [.int ((jrem r1 32) + 32)] (ct_X9_stampOf l E p1 _ hw) wd_664 wd_40 wd_662 wd_663 (by decide +kernel) rfl ⟨Nat.le_of_ble_eq_true rfl, Nat.le_of_ble_eq_true rfl⟩ [] [0, 1, 2, 3] rfl rfl rfl rfl (by decide) rfl (Nat.le_of_ble_eq_true rfl) ⟨Nat.le_of_ble_eq_true rfl, Nat.le_of_ble_eq_true rfl⟩ dX9_ageOf_11 (fun v ws' hp => ?_)
  obtain ⟨r2, rfl, rfl, hw⟩ := hp
  refine V_cast [(0, .ref h0), (1, .int p1)] [.int r2, .int ((jrem r1 32) + 32)] [(h0, .inr (8, [.ref h1, .ref h2, .int n_saved, .ref h3, .long n_hash])), (h1, .inl (E.2.1, 404, .inl a_now)), (h2, .inl (E.2.1, 1212, .inl a_past)), (h3, .inl (E.2.1, 9, .inl a_errors))] [0, 1] [0, 1, 2, 3] rfl rfl rfl rfl ?_
  refine V_isub hC dX9_ageOf_14 ?_
  refine V_bipush hC 32 dX9_ageOf_15 (by decide) ?_
  refine V_irem hC (by decide) dX9_ageOf_17 ?_
  exact V_iret hC hr ⟨jrem (((jrem r1 32) + 32) - r2) 32, rfl, rfl, hw⟩ dX9_ageOf_18
abbrev po_X9_drops (E : EN) (h0 : Nat) (h1 : Nat) (h2 : Nat) (h3 : Nat) (a_past : Nat → Int32) (n_saved : Int32) (a_errors : Nat → Int32) (n_hash : Int64) (K : (Nat → Int32) → Prop) : Option Value → va_W → Prop := fun v ws' => ∃ (a_now : Nat → Int32), v = none ∧ ws' = [(h0, .inr (8, [.ref h1, .ref h2, .int n_saved, .ref h3, .long n_hash])), (h1, .inl (E.2.1, 404, .inl a_now)), (h2, .inl (E.2.1, 1212, .inl a_past)), (h3, .inl (E.2.1, 9, .inl a_errors))] ∧ K a_now
def wpl_X9_drops_8 (a_past : Nat → Int32) (n_saved : Int32) (a_errors : Nat → Int32) (n_hash : Int64) (K : (Nat → Int32) → Prop) : Nat → Int32 → Int32 → Int32 → Int32 → Int32 → (Nat → Int32) → Prop
  | 0, _, _, _, _, _, _ => False
  | n9 + 1, x1, x2, x3, x4, x5, a_now => (vp_in x3 404 ∧ (((x1 + (x2 * ((a_now (Int32.toNatClampNeg x3)) - 1))) ≤ x5 → (vp_in x3 404 ∧ (vp_in x3 404 ∧ (∀ f2 : Nat → Int32, f2 = upd a_now (Int32.toNatClampNeg x3) ((a_now (Int32.toNatClampNeg x3)) - 1) → K f2)))) ∧ (¬ ((x1 + (x2 * ((a_now (Int32.toNatClampNeg x3)) - 1))) ≤ x5) → (vp_in (x5 + x2) 404 ∧ (vp_in x5 404 ∧ (∀ f3 : Nat → Int32, f3 = upd a_now (Int32.toNatClampNeg x5) (a_now (Int32.toNatClampNeg (x5 + x2))) → wpl_X9_drops_8 a_past n_saved a_errors n_hash K n9 x1 x2 x3 x4 (x5 + 1) f3))))))
set_option maxRecDepth 100000 in
set_option maxHeartbeats 4000000 in
theorem bl_X9_drops_8 {p : Program} {l : Launch} {e : Env} {s : State} {m : MethodId} {args : Array Value} {below : List Frame} {meth : Method} {c : Code} {E : EN} {A : Nat → Prop} (hC : Cx p s m args meth c E A cX9_drops 6 "CookieServerModel") (hr : meth.sig.returnType = none) (h0 : Nat) (h1 : Nat) (h2 : Nat) (h3 : Nat) (a_past : Nat → Int32) (n_saved : Int32) (a_errors : Nat → Int32) (n_hash : Int64) (K : (Nat → Int32) → Prop) : ∀ (n8 : Nat) (x1 : Int32) (x2 : Int32) (x3 : Int32) (x4 : Int32) (x5 : Int32) (a_now : Nat → Int32), wpl_X9_drops_8 a_past n_saved a_errors n_hash K n8 x1 x2 x3 x4 x5 a_now → V p l e { frames := 0, cells := 0, slots := 0, locals := 0 } s m args below meth c E A 6 0 0 (MQ below (QP E (po_X9_drops E h0 h1 h2 h3 a_past n_saved a_errors n_hash K) A) args s 0 0 A) 8 [(0, .ref h0), (1, .int x1), (2, .int x2), (3, .int x3), (4, .int x4), (5, .int x5)] [] [(h0, .inr (8, [.ref h1, .ref h2, .int n_saved, .ref h3, .long n_hash])), (h1, .inl (E.2.1, 404, .inl a_now)), (h2, .inl (E.2.1, 1212, .inl a_past)), (h3, .inl (E.2.1, 9, .inl a_errors))] := by
  intro n8
  induction n8 with
  | zero => intro x1 x2 x3 x4 x5 a_now hw; rw [wpl_X9_drops_8] at hw; exact hw.elim
  | succ n9 ih =>
    intro x1 x2 x3 x4 x5 a_now hw
    rw [wpl_X9_drops_8] at hw
    refine V_iload hC 5 rfl dX9_drops_8 ?_
    refine V_iload_n hC 1 rfl rfl dX9_drops_10 ?_
    refine V_iload_n hC 2 rfl rfl dX9_drops_11 ?_
    refine V_aload_n hC 0 rfl rfl dX9_drops_12 ?_
    refine V_get hC inX9 rfl 0 (by decide) wd_611 0 rfl rfl dX9_drops_13 ?_
    refine V_iload_n hC 3 rfl rfl dX9_drops_16 ?_
    refine V_iald hC _ rfl 1 rfl hw.1 dX9_drops_17 ?_
    have hw := hw.2
    refine V_iconst hC 1 dX9_drops_18 (by decide) ?_
    refine V_isub hC dX9_drops_19 ?_
    refine V_imul hC dX9_drops_20 ?_
    refine V_iadd hC dX9_drops_21 ?_
    refine V_icmp_ge hC 47 (by decide) dX9_drops_22 (fun c1 => ?_) (fun c1 => ?_)
    · have hw := hw.1 c1
      refine V_aload_n hC 0 rfl rfl dX9_drops_47 ?_
      refine V_get hC inX9 rfl 0 (by decide) wd_611 0 rfl rfl dX9_drops_48 ?_
      refine V_iload_n hC 3 rfl rfl dX9_drops_51 ?_
      refine V_dup2 hC rfl rfl dX9_drops_52 ?_
      refine V_iald hC _ rfl 1 rfl hw.1 dX9_drops_53 ?_
      have hw := hw.2
      refine V_iconst hC 1 dX9_drops_54 (by decide) ?_
      refine V_isub hC dX9_drops_55 ?_
      refine V_iast hC _ rfl 1 rfl hw.1 dX9_drops_56 (fun f2 ef2 => ?_)
      have hw := hw.2
      have hw := hw f2 ef2
      refine V_ws [(h0, .inr (8, [.ref h1, .ref h2, .int n_saved, .ref h3, .long n_hash])), (h1, .inl (E.2.1, 404, .inl f2)), (h2, .inl (E.2.1, 1212, .inl a_past)), (h3, .inl (E.2.1, 9, .inl a_errors))] rfl ?_
      exact V_vret hC hr ⟨f2, rfl, rfl, hw⟩ dX9_drops_57
    · have hw := hw.2 c1
      refine V_aload_n hC 0 rfl rfl dX9_drops_25 ?_
      refine V_get hC inX9 rfl 0 (by decide) wd_611 0 rfl rfl dX9_drops_26 ?_
      refine V_iload hC 5 rfl dX9_drops_29 ?_
      refine V_aload_n hC 0 rfl rfl dX9_drops_31 ?_
      refine V_get hC inX9 rfl 0 (by decide) wd_611 0 rfl rfl dX9_drops_32 ?_
      refine V_iload hC 5 rfl dX9_drops_35 ?_
      refine V_iload_n hC 2 rfl rfl dX9_drops_37 ?_
      refine V_iadd hC dX9_drops_38 ?_
      refine V_iald hC _ rfl 1 rfl hw.1 dX9_drops_39 ?_
      have hw := hw.2
      refine V_iast hC _ rfl 1 rfl hw.1 dX9_drops_40 (fun f3 ef3 => ?_)
      have hw := hw.2
      have hw := hw f3 ef3
      refine V_ws [(h0, .inr (8, [.ref h1, .ref h2, .int n_saved, .ref h3, .long n_hash])), (h1, .inl (E.2.1, 404, .inl f3)), (h2, .inl (E.2.1, 1212, .inl a_past)), (h3, .inl (E.2.1, 9, .inl a_errors))] rfl ?_
      refine V_iinc hC (x5 + 1) 5 [(5, .int (x5 + 1)), (0, .ref h0), (1, .int x1), (2, .int x2), (3, .int x3), (4, .int x4)] rfl (congrArg (fun z => x5 + z) (by decide : Int32.ofInt (1) = (1 : Int32))) (by decide) rfl dX9_drops_41 ?_
      refine V_goto hC 8 (by decide) dX9_drops_44 ?_
      refine V_cast [(0, .ref h0), (1, .int x1), (2, .int x2), (3, .int x3), (4, .int x4), (5, .int (x5 + 1))] [] [(h0, .inr (8, [.ref h1, .ref h2, .int n_saved, .ref h3, .long n_hash])), (h1, .inl (E.2.1, 404, .inl f3)), (h2, .inl (E.2.1, 1212, .inl a_past)), (h3, .inl (E.2.1, 9, .inl a_errors))] [1, 2, 3, 4, 5, 0] [0, 1, 2, 3] rfl rfl rfl rfl ?_
      exact ih x1 x2 x3 x4 (x5 + 1) f3 hw
def wp_X9_drops (a_now : Nat → Int32) (a_past : Nat → Int32) (n_saved : Int32) (a_errors : Nat → Int32) (n_hash : Int64) (p1 : Int32) (p2 : Int32) (p3 : Int32) (p4 : Int32) (K : (Nat → Int32) → Prop) : Prop := (∃ n8 : Nat, wpl_X9_drops_8 a_past n_saved a_errors n_hash K n8 p1 p2 p3 p4 (p1 + (p2 * p4)) a_now)
set_option maxRecDepth 100000 in
set_option maxHeartbeats 4000000 in
theorem ct_X9_drops (l : Launch) (E : EN) (h0 : Nat) (h1 : Nat) (h2 : Nat) (h3 : Nat) (a_now : Nat → Int32) (a_past : Nat → Int32) (n_saved : Int32) (a_errors : Nat → Int32) (n_hash : Int64) (p1 : Int32) (p2 : Int32) (p3 : Int32) (p4 : Int32) (K : (Nat → Int32) → Prop) (hw : wp_X9_drops a_now a_past n_saved a_errors n_hash p1 p2 p3 p4 K) : Con l yX9_drops cX9_drops 6 (none) { frames := 0, cells := 0, slots := 0, locals := 0 } E [.ref h0, .int p1, .int p2, .int p3, .int p4] [(h0, .inr (8, [.ref h1, .ref h2, .int n_saved, .ref h3, .long n_hash])), (h1, .inl (E.2.1, 404, .inl a_now)), (h2, .inl (E.2.1, 1212, .inl a_past)), (h3, .inl (E.2.1, 9, .inl a_errors))] (po_X9_drops E h0 h1 h2 h3 a_past n_saved a_errors n_hash K) := by
  refine Con.mk (by decide +kernel) (Nat.le_of_ble_eq_true rfl) ?_
  intro p e s m below meth c A hC hr hin
  have hC : Cx p s m _ meth c E A cX9_drops 6 "CookieServerModel" := hC
  rw [wp_X9_drops] at hw
  refine V_cast [(0, .ref h0), (1, .int p1), (2, .int p2), (3, .int p3), (4, .int p4)] [] [(h0, .inr (8, [.ref h1, .ref h2, .int n_saved, .ref h3, .long n_hash])), (h1, .inl (E.2.1, 404, .inl a_now)), (h2, .inl (E.2.1, 1212, .inl a_past)), (h3, .inl (E.2.1, 9, .inl a_errors))] [0, 1, 2, 3, 4] [0, 1, 2, 3] rfl rfl rfl rfl ?_
  refine V_iload_n hC 1 rfl rfl dX9_drops_0 ?_
  refine V_iload_n hC 2 rfl rfl dX9_drops_1 ?_
  refine V_iload hC 4 rfl dX9_drops_2 ?_
  refine V_imul hC dX9_drops_4 ?_
  refine V_iadd hC dX9_drops_5 ?_
  refine V_istore hC [(5, .int (p1 + (p2 * p4))), (0, .ref h0), (1, .int p1), (2, .int p2), (3, .int p3), (4, .int p4)] (by decide) rfl dX9_drops_6 ?_
  refine V_cast [(0, .ref h0), (1, .int p1), (2, .int p2), (3, .int p3), (4, .int p4), (5, .int (p1 + (p2 * p4)))] [] [(h0, .inr (8, [.ref h1, .ref h2, .int n_saved, .ref h3, .long n_hash])), (h1, .inl (E.2.1, 404, .inl a_now)), (h2, .inl (E.2.1, 1212, .inl a_past)), (h3, .inl (E.2.1, 9, .inl a_errors))] [1, 2, 3, 4, 5, 0] [0, 1, 2, 3] rfl rfl rfl rfl ?_
  obtain ⟨n8, hw⟩ := hw
  exact bl_X9_drops_8 hC hr h0 h1 h2 h3 a_past n_saved a_errors n_hash K n8 p1 p2 p3 p4 (p1 + (p2 * p4)) a_now hw
abbrev po_X9_ticks (E : EN) (h0 : Nat) (h1 : Nat) (h2 : Nat) (h3 : Nat) (a_past : Nat → Int32) (n_saved : Int32) (a_errors : Nat → Int32) (n_hash : Int64) (K : (Nat → Int32) → Prop) : Option Value → va_W → Prop := fun v ws' => ∃ (a_now : Nat → Int32), v = none ∧ ws' = [(h0, .inr (8, [.ref h1, .ref h2, .int n_saved, .ref h3, .long n_hash])), (h1, .inl (E.2.1, 404, .inl a_now)), (h2, .inl (E.2.1, 1212, .inl a_past)), (h3, .inl (E.2.1, 9, .inl a_errors))] ∧ K a_now
def wpl_X9_ticks_90 (a_past : Nat → Int32) (n_saved : Int32) (a_errors : Nat → Int32) (n_hash : Int64) (K : (Nat → Int32) → Prop) : Nat → Int32 → (Nat → Int32) → Prop
  | 0, _, _ => False
  | n9 + 1, x1, a_now => ((x1 < 0 → K a_now) ∧ (¬ (x1 < 0) → ((¬ (jrem (a_now 0) 64) = 0 → K a_now) ∧ ((jrem (a_now 0) 64) = 0 → (vp_in (168 + (3 * x1)) 404 ∧ (wp_X9_ageOf a_now a_past n_saved a_errors n_hash (a_now (Int32.toNatClampNeg (168 + (3 * x1)))) (fun (r6 : Int32) => ((r6 ≤ 1 → wpl_X9_ticks_90 a_past n_saved a_errors n_hash K n9 (x1 + (-1)) a_now) ∧ (¬ (r6 ≤ 1) → (wp_X9_drops a_now a_past n_saved a_errors n_hash 168 3 4 x1 (fun (g8 : Nat → Int32) => wpl_X9_ticks_90 a_past n_saved a_errors n_hash K n9 (x1 + (-1)) g8)))))))))))
set_option maxRecDepth 100000 in
set_option maxHeartbeats 4000000 in
theorem bl_X9_ticks_90 {p : Program} {l : Launch} {e : Env} {s : State} {m : MethodId} {args : Array Value} {below : List Frame} {meth : Method} {c : Code} {E : EN} {A : Nat → Prop} (hC : Cx p s m args meth c E A cX9_ticks 2 "CookieServerModel") (hr : meth.sig.returnType = none) (h0 : Nat) (h1 : Nat) (h2 : Nat) (h3 : Nat) (a_past : Nat → Int32) (n_saved : Int32) (a_errors : Nat → Int32) (n_hash : Int64) (K : (Nat → Int32) → Prop) : ∀ (n8 : Nat) (x1 : Int32) (a_now : Nat → Int32), wpl_X9_ticks_90 a_past n_saved a_errors n_hash K n8 x1 a_now → V p l e { frames := 2, cells := 0, slots := 0, locals := 41 } s m args below meth c E A 2 0 0 (MQ below (QP E (po_X9_ticks E h0 h1 h2 h3 a_past n_saved a_errors n_hash K) A) args s 0 0 A) 90 [(0, .ref h0), (1, .int x1)] [] [(h0, .inr (8, [.ref h1, .ref h2, .int n_saved, .ref h3, .long n_hash])), (h1, .inl (E.2.1, 404, .inl a_now)), (h2, .inl (E.2.1, 1212, .inl a_past)), (h3, .inl (E.2.1, 9, .inl a_errors))] := by
  intro n8
  induction n8 with
  | zero => intro x1 a_now hw; rw [wpl_X9_ticks_90] at hw; exact hw.elim
  | succ n9 ih =>
    intro x1 a_now hw
    rw [wpl_X9_ticks_90] at hw
    refine V_iload_n hC 1 rfl rfl dX9_ticks_90 ?_
    refine V_if_lt hC 142 (by decide) dX9_ticks_91 (fun c4 => ?_) (fun c4 => ?_)
    · have hw := hw.1 c4
      exact V_vret hC hr ⟨a_now, rfl, rfl, hw⟩ dX9_ticks_142
    · have hw := hw.2 c4
      refine V_aload_n hC 0 rfl rfl dX9_ticks_94 ?_
      refine V_get hC inX9 rfl 0 (by decide) wd_611 0 rfl rfl dX9_ticks_95 ?_
      refine V_iconst hC 0 dX9_ticks_98 (by decide) ?_
      refine V_iald hC 0 (by decide) 1 rfl (by unfold vp_in; decide) dX9_ticks_99 ?_
      refine V_bipush hC 64 dX9_ticks_100 (by decide) ?_
      refine V_irem hC (by decide) dX9_ticks_102 ?_
      refine V_if_ne hC 142 (by decide) dX9_ticks_103 (fun c5 => ?_) (fun c5 => ?_)
      · have hw := hw.1 c5
        exact V_vret hC hr ⟨a_now, rfl, rfl, hw⟩ dX9_ticks_142
      · have hw := hw.2 c5
        refine V_aload_n hC 0 rfl rfl dX9_ticks_106 ?_
        refine V_aload_n hC 0 rfl rfl dX9_ticks_107 ?_
        refine V_get hC inX9 rfl 0 (by decide) wd_611 0 rfl rfl dX9_ticks_108 ?_
        refine V_sipush hC 168 dX9_ticks_111 (by decide) ?_
        refine V_iconst hC 3 dX9_ticks_114 (by decide) ?_
        refine V_iload_n hC 1 rfl rfl dX9_ticks_115 ?_
        refine V_imul hC dX9_ticks_116 ?_
        refine V_iadd hC dX9_ticks_117 ?_
        refine V_iald hC _ rfl 1 rfl hw.1 dX9_ticks_118 ?_
        have hw := hw.2
        refine V_callV hC (wr := []) 1 [.int (a_now (Int32.toNatClampNeg (168 + (3 * x1))))] [] (ct_X9_ageOf l E h0 h1 h2 h3 a_now a_past n_saved a_errors n_hash (a_now (Int32.toNatClampNeg (168 + (3 * x1)))) _ hw) wd_657 wd_40 wd_654 wd_656 wd_16 (by decide +kernel) rfl ⟨Nat.le_of_ble_eq_true rfl, Nat.le_of_ble_eq_true rfl⟩ [0, 1, 2, 3] [] rfl rfl rfl rfl (by decide) rfl rfl rfl (Nat.le_of_ble_eq_true rfl) ⟨Nat.le_of_ble_eq_true rfl, Nat.le_of_ble_eq_true rfl⟩ dX9_ticks_119 (fun v ws' hp => ?_)
        obtain ⟨r6, rfl, rfl, hw⟩ := hp
        refine V_cast [(0, .ref h0), (1, .int x1)] [.int r6] [(h0, .inr (8, [.ref h1, .ref h2, .int n_saved, .ref h3, .long n_hash])), (h1, .inl (E.2.1, 404, .inl a_now)), (h2, .inl (E.2.1, 1212, .inl a_past)), (h3, .inl (E.2.1, 9, .inl a_errors))] [0, 1] [0, 1, 2, 3] rfl rfl rfl rfl ?_
        refine V_iconst hC 1 dX9_ticks_122 (by decide) ?_
        refine V_icmp_le hC 136 (by decide) dX9_ticks_123 (fun c7 => ?_) (fun c7 => ?_)
        · have hw := hw.1 c7
          refine V_iinc hC (x1 + (-1)) 1 [(1, .int (x1 + (-1))), (0, .ref h0)] rfl (congrArg (fun z => x1 + z) (by decide : Int32.ofInt (-1) = (-1 : Int32))) (by decide) rfl dX9_ticks_136 ?_
          refine V_goto hC 90 (by decide) dX9_ticks_139 ?_
          refine V_cast [(0, .ref h0), (1, .int (x1 + (-1)))] [] [(h0, .inr (8, [.ref h1, .ref h2, .int n_saved, .ref h3, .long n_hash])), (h1, .inl (E.2.1, 404, .inl a_now)), (h2, .inl (E.2.1, 1212, .inl a_past)), (h3, .inl (E.2.1, 9, .inl a_errors))] [1, 0] [0, 1, 2, 3] rfl rfl rfl rfl ?_
          exact ih (x1 + (-1)) a_now hw
        · have hw := hw.2 c7
          refine V_aload_n hC 0 rfl rfl dX9_ticks_126 ?_
          refine V_sipush hC 168 dX9_ticks_127 (by decide) ?_
          refine V_iconst hC 3 dX9_ticks_130 (by decide) ?_
          refine V_iconst hC 4 dX9_ticks_131 (by decide) ?_
          refine V_iload_n hC 1 rfl rfl dX9_ticks_132 ?_
          refine V_callV hC (wr := []) 4 [.int 168, .int 3, .int 4, .int x1] [] (ct_X9_drops l E h0 h1 h2 h3 a_now a_past n_saved a_errors n_hash 168 3 4 x1 _ hw) wd_653 wd_40 wd_650 wd_652 wd_15 (by decide +kernel) rfl ⟨Nat.le_of_ble_eq_true rfl, Nat.le_of_ble_eq_true rfl⟩ [0, 1, 2, 3] [] rfl rfl rfl rfl (by decide) rfl rfl rfl (Nat.le_of_ble_eq_true rfl) ⟨Nat.le_of_ble_eq_true rfl, Nat.le_of_ble_eq_true rfl⟩ dX9_ticks_133 (fun v ws' hp => ?_)
          obtain ⟨g8, rfl, rfl, hw⟩ := hp
          refine V_cast [(0, .ref h0), (1, .int x1)] [] [(h0, .inr (8, [.ref h1, .ref h2, .int n_saved, .ref h3, .long n_hash])), (h1, .inl (E.2.1, 404, .inl g8)), (h2, .inl (E.2.1, 1212, .inl a_past)), (h3, .inl (E.2.1, 9, .inl a_errors))] [0, 1] [0, 1, 2, 3] rfl rfl rfl rfl ?_
          refine V_iinc hC (x1 + (-1)) 1 [(1, .int (x1 + (-1))), (0, .ref h0)] rfl (congrArg (fun z => x1 + z) (by decide : Int32.ofInt (-1) = (-1 : Int32))) (by decide) rfl dX9_ticks_136 ?_
          refine V_goto hC 90 (by decide) dX9_ticks_139 ?_
          refine V_cast [(0, .ref h0), (1, .int (x1 + (-1)))] [] [(h0, .inr (8, [.ref h1, .ref h2, .int n_saved, .ref h3, .long n_hash])), (h1, .inl (E.2.1, 404, .inl g8)), (h2, .inl (E.2.1, 1212, .inl a_past)), (h3, .inl (E.2.1, 9, .inl a_errors))] [1, 0] [0, 1, 2, 3] rfl rfl rfl rfl ?_
          exact ih (x1 + (-1)) g8 hw
def wpl_X9_ticks_37 (a_past : Nat → Int32) (n_saved : Int32) (a_errors : Nat → Int32) (n_hash : Int64) (K : (Nat → Int32) → Prop) : Nat → Int32 → (Nat → Int32) → Prop
  | 0, _, _ => False
  | n9 + 1, x1, a_now => ((x1 < 0 → (∃ n8 : Nat, wpl_X9_ticks_90 a_past n_saved a_errors n_hash K n8 ((a_now 4) - 1) a_now)) ∧ (¬ (x1 < 0) → (vp_in ((24 + (4 * x1)) + 3) 404 ∧ ((((a_now 0) - (a_now (Int32.toNatClampNeg ((24 + (4 * x1)) + 3)))) < 20 → wpl_X9_ticks_37 a_past n_saved a_errors n_hash K n9 (x1 + (-1)) a_now) ∧ (¬ (((a_now 0) - (a_now (Int32.toNatClampNeg ((24 + (4 * x1)) + 3)))) < 20) → (wp_X9_drops a_now a_past n_saved a_errors n_hash 24 4 3 x1 (fun (g10 : Nat → Int32) => wpl_X9_ticks_37 a_past n_saved a_errors n_hash K n9 (x1 + (-1)) g10)))))))
set_option maxRecDepth 100000 in
set_option maxHeartbeats 4000000 in
theorem bl_X9_ticks_37 {p : Program} {l : Launch} {e : Env} {s : State} {m : MethodId} {args : Array Value} {below : List Frame} {meth : Method} {c : Code} {E : EN} {A : Nat → Prop} (hC : Cx p s m args meth c E A cX9_ticks 2 "CookieServerModel") (hr : meth.sig.returnType = none) (h0 : Nat) (h1 : Nat) (h2 : Nat) (h3 : Nat) (a_past : Nat → Int32) (n_saved : Int32) (a_errors : Nat → Int32) (n_hash : Int64) (K : (Nat → Int32) → Prop) : ∀ (n8 : Nat) (x1 : Int32) (a_now : Nat → Int32), wpl_X9_ticks_37 a_past n_saved a_errors n_hash K n8 x1 a_now → V p l e { frames := 2, cells := 0, slots := 0, locals := 41 } s m args below meth c E A 2 0 0 (MQ below (QP E (po_X9_ticks E h0 h1 h2 h3 a_past n_saved a_errors n_hash K) A) args s 0 0 A) 37 [(0, .ref h0), (1, .int x1)] [] [(h0, .inr (8, [.ref h1, .ref h2, .int n_saved, .ref h3, .long n_hash])), (h1, .inl (E.2.1, 404, .inl a_now)), (h2, .inl (E.2.1, 1212, .inl a_past)), (h3, .inl (E.2.1, 9, .inl a_errors))] := by
  intro n8
  induction n8 with
  | zero => intro x1 a_now hw; rw [wpl_X9_ticks_37] at hw; exact hw.elim
  | succ n9 ih =>
    intro x1 a_now hw
    rw [wpl_X9_ticks_37] at hw
    refine V_iload_n hC 1 rfl rfl dX9_ticks_37 ?_
    refine V_if_lt hC 81 (by decide) dX9_ticks_38 (fun c3 => ?_) (fun c3 => ?_)
    · have hw := hw.1 c3
      refine V_aload_n hC 0 rfl rfl dX9_ticks_81 ?_
      refine V_get hC inX9 rfl 0 (by decide) wd_611 0 rfl rfl dX9_ticks_82 ?_
      refine V_iconst hC 4 dX9_ticks_85 (by decide) ?_
      refine V_iald hC 4 (by decide) 1 rfl (by unfold vp_in; decide) dX9_ticks_86 ?_
      refine V_iconst hC 1 dX9_ticks_87 (by decide) ?_
      refine V_isub hC dX9_ticks_88 ?_
      refine V_istore_n hC [(1, .int ((a_now 4) - 1)), (0, .ref h0)] rfl (by decide) rfl dX9_ticks_89 ?_
      refine V_cast [(0, .ref h0), (1, .int ((a_now 4) - 1))] [] [(h0, .inr (8, [.ref h1, .ref h2, .int n_saved, .ref h3, .long n_hash])), (h1, .inl (E.2.1, 404, .inl a_now)), (h2, .inl (E.2.1, 1212, .inl a_past)), (h3, .inl (E.2.1, 9, .inl a_errors))] [1, 0] [0, 1, 2, 3] rfl rfl rfl rfl ?_
      obtain ⟨n8, hw⟩ := hw
      exact bl_X9_ticks_90 hC hr h0 h1 h2 h3 a_past n_saved a_errors n_hash K n8 ((a_now 4) - 1) a_now hw
    · have hw := hw.2 c3
      refine V_aload_n hC 0 rfl rfl dX9_ticks_41 ?_
      refine V_get hC inX9 rfl 0 (by decide) wd_611 0 rfl rfl dX9_ticks_42 ?_
      refine V_iconst hC 0 dX9_ticks_45 (by decide) ?_
      refine V_iald hC 0 (by decide) 1 rfl (by unfold vp_in; decide) dX9_ticks_46 ?_
      refine V_aload_n hC 0 rfl rfl dX9_ticks_47 ?_
      refine V_get hC inX9 rfl 0 (by decide) wd_611 0 rfl rfl dX9_ticks_48 ?_
      refine V_bipush hC 24 dX9_ticks_51 (by decide) ?_
      refine V_iconst hC 4 dX9_ticks_53 (by decide) ?_
      refine V_iload_n hC 1 rfl rfl dX9_ticks_54 ?_
      refine V_imul hC dX9_ticks_55 ?_
      refine V_iadd hC dX9_ticks_56 ?_
      refine V_iconst hC 3 dX9_ticks_57 (by decide) ?_
      refine V_iadd hC dX9_ticks_58 ?_
      refine V_iald hC _ rfl 1 rfl hw.1 dX9_ticks_59 ?_
      have hw := hw.2
      refine V_isub hC dX9_ticks_60 ?_
      refine V_bipush hC 20 dX9_ticks_61 (by decide) ?_
      refine V_icmp_lt hC 75 (by decide) dX9_ticks_63 (fun c9 => ?_) (fun c9 => ?_)
      · have hw := hw.1 c9
        refine V_iinc hC (x1 + (-1)) 1 [(1, .int (x1 + (-1))), (0, .ref h0)] rfl (congrArg (fun z => x1 + z) (by decide : Int32.ofInt (-1) = (-1 : Int32))) (by decide) rfl dX9_ticks_75 ?_
        refine V_goto hC 37 (by decide) dX9_ticks_78 ?_
        refine V_cast [(0, .ref h0), (1, .int (x1 + (-1)))] [] [(h0, .inr (8, [.ref h1, .ref h2, .int n_saved, .ref h3, .long n_hash])), (h1, .inl (E.2.1, 404, .inl a_now)), (h2, .inl (E.2.1, 1212, .inl a_past)), (h3, .inl (E.2.1, 9, .inl a_errors))] [1, 0] [0, 1, 2, 3] rfl rfl rfl rfl ?_
        exact ih (x1 + (-1)) a_now hw
      · have hw := hw.2 c9
        refine V_aload_n hC 0 rfl rfl dX9_ticks_66 ?_
        refine V_bipush hC 24 dX9_ticks_67 (by decide) ?_
        refine V_iconst hC 4 dX9_ticks_69 (by decide) ?_
        refine V_iconst hC 3 dX9_ticks_70 (by decide) ?_
        refine V_iload_n hC 1 rfl rfl dX9_ticks_71 ?_
        refine V_callV hC (wr := []) 4 [.int 24, .int 4, .int 3, .int x1] [] (ct_X9_drops l E h0 h1 h2 h3 a_now a_past n_saved a_errors n_hash 24 4 3 x1 _ hw) wd_653 wd_40 wd_650 wd_652 wd_15 (by decide +kernel) rfl ⟨Nat.le_of_ble_eq_true rfl, Nat.le_of_ble_eq_true rfl⟩ [0, 1, 2, 3] [] rfl rfl rfl rfl (by decide) rfl rfl rfl (Nat.le_of_ble_eq_true rfl) ⟨Nat.le_of_ble_eq_true rfl, Nat.le_of_ble_eq_true rfl⟩ dX9_ticks_72 (fun v ws' hp => ?_)
        obtain ⟨g10, rfl, rfl, hw⟩ := hp
        refine V_cast [(0, .ref h0), (1, .int x1)] [] [(h0, .inr (8, [.ref h1, .ref h2, .int n_saved, .ref h3, .long n_hash])), (h1, .inl (E.2.1, 404, .inl g10)), (h2, .inl (E.2.1, 1212, .inl a_past)), (h3, .inl (E.2.1, 9, .inl a_errors))] [0, 1] [0, 1, 2, 3] rfl rfl rfl rfl ?_
        refine V_iinc hC (x1 + (-1)) 1 [(1, .int (x1 + (-1))), (0, .ref h0)] rfl (congrArg (fun z => x1 + z) (by decide : Int32.ofInt (-1) = (-1 : Int32))) (by decide) rfl dX9_ticks_75 ?_
        refine V_goto hC 37 (by decide) dX9_ticks_78 ?_
        refine V_cast [(0, .ref h0), (1, .int (x1 + (-1)))] [] [(h0, .inr (8, [.ref h1, .ref h2, .int n_saved, .ref h3, .long n_hash])), (h1, .inl (E.2.1, 404, .inl g10)), (h2, .inl (E.2.1, 1212, .inl a_past)), (h3, .inl (E.2.1, 9, .inl a_errors))] [1, 0] [0, 1, 2, 3] rfl rfl rfl rfl ?_
        exact ih (x1 + (-1)) g10 hw
def wp_X9_ticks (a_now : Nat → Int32) (a_past : Nat → Int32) (n_saved : Int32) (a_errors : Nat → Int32) (n_hash : Int64) (K : (Nat → Int32) → Prop) : Prop := (∀ f1 : Nat → Int32, f1 = upd a_now 0 ((a_now 0) + 1) → (vp_in (8 + (jrem (f1 0) 16)) 404 ∧ (∀ f2 : Nat → Int32, f2 = upd f1 (Int32.toNatClampNeg (8 + (jrem (f1 0) 16))) 0 → (∃ n8 : Nat, wpl_X9_ticks_37 a_past n_saved a_errors n_hash K n8 ((f2 3) - 1) f2))))
set_option maxRecDepth 100000 in
set_option maxHeartbeats 4000000 in
theorem ct_X9_ticks (l : Launch) (E : EN) (h0 : Nat) (h1 : Nat) (h2 : Nat) (h3 : Nat) (a_now : Nat → Int32) (a_past : Nat → Int32) (n_saved : Int32) (a_errors : Nat → Int32) (n_hash : Int64) (K : (Nat → Int32) → Prop) (hw : wp_X9_ticks a_now a_past n_saved a_errors n_hash K) : Con l yX9_ticks cX9_ticks 2 (none) { frames := 2, cells := 0, slots := 0, locals := 41 } E [.ref h0] [(h0, .inr (8, [.ref h1, .ref h2, .int n_saved, .ref h3, .long n_hash])), (h1, .inl (E.2.1, 404, .inl a_now)), (h2, .inl (E.2.1, 1212, .inl a_past)), (h3, .inl (E.2.1, 9, .inl a_errors))] (po_X9_ticks E h0 h1 h2 h3 a_past n_saved a_errors n_hash K) := by
  refine Con.mk (by decide +kernel) (Nat.le_of_ble_eq_true rfl) ?_
  intro p e s m below meth c A hC hr hin
  have hC : Cx p s m _ meth c E A cX9_ticks 2 "CookieServerModel" := hC
  rw [wp_X9_ticks] at hw
  refine V_cast [(0, .ref h0)] [] [(h0, .inr (8, [.ref h1, .ref h2, .int n_saved, .ref h3, .long n_hash])), (h1, .inl (E.2.1, 404, .inl a_now)), (h2, .inl (E.2.1, 1212, .inl a_past)), (h3, .inl (E.2.1, 9, .inl a_errors))] [0] [0, 1, 2, 3] rfl rfl rfl rfl ?_
  refine V_aload_n hC 0 rfl rfl dX9_ticks_0 ?_
  refine V_get hC inX9 rfl 0 (by decide) wd_611 0 rfl rfl dX9_ticks_1 ?_
  refine V_iconst hC 0 dX9_ticks_4 (by decide) ?_
  refine V_dup2 hC rfl rfl dX9_ticks_5 ?_
  refine V_iald hC 0 (by decide) 1 rfl (by unfold vp_in; decide) dX9_ticks_6 ?_
  refine V_iconst hC 1 dX9_ticks_7 (by decide) ?_
  refine V_iadd hC dX9_ticks_8 ?_
  refine V_iast hC 0 (by decide) 1 rfl (by unfold vp_in; decide) dX9_ticks_9 (fun f1 ef1 => ?_)
  have hw := hw f1 ef1
  refine V_ws [(h0, .inr (8, [.ref h1, .ref h2, .int n_saved, .ref h3, .long n_hash])), (h1, .inl (E.2.1, 404, .inl f1)), (h2, .inl (E.2.1, 1212, .inl a_past)), (h3, .inl (E.2.1, 9, .inl a_errors))] rfl ?_
  refine V_aload_n hC 0 rfl rfl dX9_ticks_10 ?_
  refine V_get hC inX9 rfl 0 (by decide) wd_611 0 rfl rfl dX9_ticks_11 ?_
  refine V_bipush hC 8 dX9_ticks_14 (by decide) ?_
  refine V_aload_n hC 0 rfl rfl dX9_ticks_16 ?_
  refine V_get hC inX9 rfl 0 (by decide) wd_611 0 rfl rfl dX9_ticks_17 ?_
  refine V_iconst hC 0 dX9_ticks_20 (by decide) ?_
  refine V_iald hC 0 (by decide) 1 rfl (by unfold vp_in; decide) dX9_ticks_21 ?_
  refine V_bipush hC 16 dX9_ticks_22 (by decide) ?_
  refine V_irem hC (by decide) dX9_ticks_24 ?_
  refine V_iadd hC dX9_ticks_25 ?_
  refine V_iconst hC 0 dX9_ticks_26 (by decide) ?_
  refine V_iast hC _ rfl 1 rfl hw.1 dX9_ticks_27 (fun f2 ef2 => ?_)
  have hw := hw.2
  have hw := hw f2 ef2
  refine V_ws [(h0, .inr (8, [.ref h1, .ref h2, .int n_saved, .ref h3, .long n_hash])), (h1, .inl (E.2.1, 404, .inl f2)), (h2, .inl (E.2.1, 1212, .inl a_past)), (h3, .inl (E.2.1, 9, .inl a_errors))] rfl ?_
  refine V_aload_n hC 0 rfl rfl dX9_ticks_28 ?_
  refine V_get hC inX9 rfl 0 (by decide) wd_611 0 rfl rfl dX9_ticks_29 ?_
  refine V_iconst hC 3 dX9_ticks_32 (by decide) ?_
  refine V_iald hC 3 (by decide) 1 rfl (by unfold vp_in; decide) dX9_ticks_33 ?_
  refine V_iconst hC 1 dX9_ticks_34 (by decide) ?_
  refine V_isub hC dX9_ticks_35 ?_
  refine V_istore_n hC [(1, .int ((f2 3) - 1)), (0, .ref h0)] rfl (by decide) rfl dX9_ticks_36 ?_
  refine V_cast [(0, .ref h0), (1, .int ((f2 3) - 1))] [] [(h0, .inr (8, [.ref h1, .ref h2, .int n_saved, .ref h3, .long n_hash])), (h1, .inl (E.2.1, 404, .inl f2)), (h2, .inl (E.2.1, 1212, .inl a_past)), (h3, .inl (E.2.1, 9, .inl a_errors))] [1, 0] [0, 1, 2, 3] rfl rfl rfl rfl ?_
  obtain ⟨n8, hw⟩ := hw
  exact bl_X9_ticks_37 hC hr h0 h1 h2 h3 a_past n_saved a_errors n_hash K n8 ((f2 3) - 1) f2 hw
abbrev po_X9_advance (E : EN) (h0 : Nat) (h1 : Nat) (h2 : Nat) (h3 : Nat) (n_hash : Int64) (K : Int32 → (Nat → Int32) → (Nat → Int32) → Int32 → (Nat → Int32) → Prop) : Option Value → va_W → Prop := fun v ws' => ∃ (r0 : Int32) (a_now : Nat → Int32) (a_past : Nat → Int32) (n_saved : Int32) (a_errors : Nat → Int32), v = some (.int r0) ∧ ws' = [(h0, .inr (8, [.ref h1, .ref h2, .int n_saved, .ref h3, .long n_hash])), (h1, .inl (E.2.1, 404, .inl a_now)), (h2, .inl (E.2.1, 1212, .inl a_past)), (h3, .inl (E.2.1, 9, .inl a_errors))] ∧ K r0 a_now a_past n_saved a_errors
def wpl_X9_advance_24 (n_hash : Int64) (K : Int32 → (Nat → Int32) → (Nat → Int32) → Int32 → (Nat → Int32) → Prop) : Nat → Int32 → Int32 → (Nat → Int32) → (Nat → Int32) → Int32 → (Nat → Int32) → Prop
  | 0, _, _, _, _, _, _ => False
  | n9 + 1, x1, x2, a_now, a_past, n_saved, a_errors => ((x1 ≤ x2 → K (a_now 0) a_now a_past n_saved a_errors) ∧ (¬ (x1 ≤ x2) → (wp_X9_ticks a_now a_past n_saved a_errors n_hash (fun (g6 : Nat → Int32) => wpl_X9_advance_24 n_hash K n9 x1 (x2 + 1) g6 a_past n_saved a_errors))))
set_option maxRecDepth 100000 in
set_option maxHeartbeats 4000000 in
theorem bl_X9_advance_24 {p : Program} {l : Launch} {e : Env} {s : State} {m : MethodId} {args : Array Value} {below : List Frame} {meth : Method} {c : Code} {E : EN} {A : Nat → Prop} (hC : Cx p s m args meth c E A cX9_advance 3 "CookieServerModel") (hr : meth.sig.returnType = some .int) (h0 : Nat) (h1 : Nat) (h2 : Nat) (h3 : Nat) (n_hash : Int64) (K : Int32 → (Nat → Int32) → (Nat → Int32) → Int32 → (Nat → Int32) → Prop) : ∀ (n8 : Nat) (x1 : Int32) (x2 : Int32) (a_now : Nat → Int32) (a_past : Nat → Int32) (n_saved : Int32) (a_errors : Nat → Int32), wpl_X9_advance_24 n_hash K n8 x1 x2 a_now a_past n_saved a_errors → V p l e { frames := 3, cells := 0, slots := 0, locals := 62 } s m args below meth c E A 3 0 0 (MQ below (QP E (po_X9_advance E h0 h1 h2 h3 n_hash K) A) args s 0 0 A) 24 [(0, .ref h0), (1, .int x1), (2, .int x2)] [] [(h0, .inr (8, [.ref h1, .ref h2, .int n_saved, .ref h3, .long n_hash])), (h1, .inl (E.2.1, 404, .inl a_now)), (h2, .inl (E.2.1, 1212, .inl a_past)), (h3, .inl (E.2.1, 9, .inl a_errors))] := by
  intro n8
  induction n8 with
  | zero => intro x1 x2 a_now a_past n_saved a_errors hw; rw [wpl_X9_advance_24] at hw; exact hw.elim
  | succ n9 ih =>
    intro x1 x2 a_now a_past n_saved a_errors hw
    rw [wpl_X9_advance_24] at hw
    refine V_iload_n hC 2 rfl rfl dX9_advance_24 ?_
    refine V_iload_n hC 1 rfl rfl dX9_advance_25 ?_
    refine V_icmp_ge hC 39 (by decide) dX9_advance_26 (fun c5 => ?_) (fun c5 => ?_)
    · have hw := hw.1 c5
      refine V_aload_n hC 0 rfl rfl dX9_advance_39 ?_
      refine V_get hC inX9 rfl 0 (by decide) wd_611 0 rfl rfl dX9_advance_40 ?_
      refine V_iconst hC 0 dX9_advance_43 (by decide) ?_
      refine V_iald hC 0 (by decide) 1 rfl (by unfold vp_in; decide) dX9_advance_44 ?_
      exact V_iret hC hr ⟨a_now 0, a_now, a_past, n_saved, a_errors, rfl, rfl, hw⟩ dX9_advance_45
    · have hw := hw.2 c5
      refine V_aload_n hC 0 rfl rfl dX9_advance_29 ?_
      refine V_callV hC (wr := []) 0 [] [] (ct_X9_ticks l E h0 h1 h2 h3 a_now a_past n_saved a_errors n_hash _ hw) wd_649 wd_40 wd_646 wd_648 wd_14 (by decide +kernel) rfl ⟨Nat.le_of_ble_eq_true rfl, Nat.le_of_ble_eq_true rfl⟩ [0, 1, 2, 3] [] rfl rfl rfl rfl (by decide) rfl rfl rfl (Nat.le_of_ble_eq_true rfl) ⟨Nat.le_of_ble_eq_true rfl, Nat.le_of_ble_eq_true rfl⟩ dX9_advance_30 (fun v ws' hp => ?_)
      obtain ⟨g6, rfl, rfl, hw⟩ := hp
      refine V_cast [(0, .ref h0), (1, .int x1), (2, .int x2)] [] [(h0, .inr (8, [.ref h1, .ref h2, .int n_saved, .ref h3, .long n_hash])), (h1, .inl (E.2.1, 404, .inl g6)), (h2, .inl (E.2.1, 1212, .inl a_past)), (h3, .inl (E.2.1, 9, .inl a_errors))] [0, 1, 2] [0, 1, 2, 3] rfl rfl rfl rfl ?_
      refine V_iinc hC (x2 + 1) 2 [(2, .int (x2 + 1)), (0, .ref h0), (1, .int x1)] rfl (congrArg (fun z => x2 + z) (by decide : Int32.ofInt (1) = (1 : Int32))) (by decide) rfl dX9_advance_33 ?_
      refine V_goto hC 24 (by decide) dX9_advance_36 ?_
      refine V_cast [(0, .ref h0), (1, .int x1), (2, .int (x2 + 1))] [] [(h0, .inr (8, [.ref h1, .ref h2, .int n_saved, .ref h3, .long n_hash])), (h1, .inl (E.2.1, 404, .inl g6)), (h2, .inl (E.2.1, 1212, .inl a_past)), (h3, .inl (E.2.1, 9, .inl a_errors))] [1, 2, 0] [0, 1, 2, 3] rfl rfl rfl rfl ?_
      exact ih x1 (x2 + 1) g6 a_past n_saved a_errors hw
def wp_X9_advance (a_now : Nat → Int32) (a_past : Nat → Int32) (n_saved : Int32) (a_errors : Nat → Int32) (n_hash : Int64) (p1 : Int32) (K : Int32 → (Nat → Int32) → (Nat → Int32) → Int32 → (Nat → Int32) → Prop) : Prop := (wp_X9_within p1 0 1000 (fun (r1 : Int32) => ((¬ r1 = 0 → (wp_X9_saves a_now a_past n_saved a_errors n_hash (fun (g3 : Nat → Int32) (s4 : Int32) => (∃ n8 : Nat, wpl_X9_advance_24 n_hash K n8 p1 0 a_now g3 s4 a_errors)))) ∧ (r1 = 0 → (wp_X9_fails a_now a_past n_saved a_errors n_hash (-2) (fun (r7 : Int32) (g8 : Nat → Int32) => K r7 a_now a_past n_saved g8))))))
set_option maxRecDepth 100000 in
set_option maxHeartbeats 4000000 in
theorem ct_X9_advance (l : Launch) (E : EN) (h0 : Nat) (h1 : Nat) (h2 : Nat) (h3 : Nat) (a_now : Nat → Int32) (a_past : Nat → Int32) (n_saved : Int32) (a_errors : Nat → Int32) (n_hash : Int64) (p1 : Int32) (K : Int32 → (Nat → Int32) → (Nat → Int32) → Int32 → (Nat → Int32) → Prop) (hw : wp_X9_advance a_now a_past n_saved a_errors n_hash p1 K) : Con l yX9_advance cX9_advance 3 (some .int) { frames := 3, cells := 0, slots := 0, locals := 62 } E [.ref h0, .int p1] [(h0, .inr (8, [.ref h1, .ref h2, .int n_saved, .ref h3, .long n_hash])), (h1, .inl (E.2.1, 404, .inl a_now)), (h2, .inl (E.2.1, 1212, .inl a_past)), (h3, .inl (E.2.1, 9, .inl a_errors))] (po_X9_advance E h0 h1 h2 h3 n_hash K) := by
  refine Con.mk (by decide +kernel) (Nat.le_of_ble_eq_true rfl) ?_
  intro p e s m below meth c A hC hr hin
  have hC : Cx p s m _ meth c E A cX9_advance 3 "CookieServerModel" := hC
  rw [wp_X9_advance] at hw
  refine V_cast [(0, .ref h0), (1, .int p1)] [] [(h0, .inr (8, [.ref h1, .ref h2, .int n_saved, .ref h3, .long n_hash])), (h1, .inl (E.2.1, 404, .inl a_now)), (h2, .inl (E.2.1, 1212, .inl a_past)), (h3, .inl (E.2.1, 9, .inl a_errors))] [0, 1] [0, 1, 2, 3] rfl rfl rfl rfl ?_
  refine V_iload_n hC 1 rfl rfl dX9_advance_0 ?_
  refine V_iconst hC 0 dX9_advance_1 (by decide) ?_
  refine V_sipush hC 1000 dX9_advance_2 (by decide) ?_
  refine V_callS hC (wr := [(h0, .inr (8, [.ref h1, .ref h2, .int n_saved, .ref h3, .long n_hash])), (h1, .inl (E.2.1, 404, .inl a_now)), (h2, .inl (E.2.1, 1212, .inl a_past)), (h3, .inl (E.2.1, 9, .inl a_errors))]) 3 [.int p1, .int 0, .int 1000] [] (ct_X9_within l E p1 0 1000 _ hw) wd_641 wd_40 wd_639 wd_640 (by decide +kernel) rfl ⟨Nat.le_of_ble_eq_true rfl, Nat.le_of_ble_eq_true rfl⟩ [] [0, 1, 2, 3] rfl rfl rfl rfl (by decide) rfl (Nat.le_of_ble_eq_true rfl) ⟨Nat.le_of_ble_eq_true rfl, Nat.le_of_ble_eq_true rfl⟩ dX9_advance_5 (fun v ws' hp => ?_)
  obtain ⟨r1, rfl, rfl, hw⟩ := hp
  refine V_cast [(0, .ref h0), (1, .int p1)] [.int r1] [(h0, .inr (8, [.ref h1, .ref h2, .int n_saved, .ref h3, .long n_hash])), (h1, .inl (E.2.1, 404, .inl a_now)), (h2, .inl (E.2.1, 1212, .inl a_past)), (h3, .inl (E.2.1, 9, .inl a_errors))] [0, 1] [0, 1, 2, 3] rfl rfl rfl rfl ?_
  refine V_if_ne hC 18 (by decide) dX9_advance_8 (fun c2 => ?_) (fun c2 => ?_)
  · have hw := hw.1 c2
    refine V_aload_n hC 0 rfl rfl dX9_advance_18 ?_
    refine V_callV hC (wr := []) 0 [] [] (ct_X9_saves l E h0 h1 h2 h3 a_now a_past n_saved a_errors n_hash _ hw) wd_645 wd_40 wd_642 wd_644 wd_13 (by decide +kernel) rfl ⟨Nat.le_of_ble_eq_true rfl, Nat.le_of_ble_eq_true rfl⟩ [0, 1, 2, 3] [] rfl rfl rfl rfl (by decide) rfl rfl rfl (Nat.le_of_ble_eq_true rfl) ⟨Nat.le_of_ble_eq_true rfl, Nat.le_of_ble_eq_true rfl⟩ dX9_advance_19 (fun v ws' hp => ?_)
    obtain ⟨g3, s4, rfl, rfl, hw⟩ := hp
    refine V_cast [(0, .ref h0), (1, .int p1)] [] [(h0, .inr (8, [.ref h1, .ref h2, .int s4, .ref h3, .long n_hash])), (h1, .inl (E.2.1, 404, .inl a_now)), (h2, .inl (E.2.1, 1212, .inl g3)), (h3, .inl (E.2.1, 9, .inl a_errors))] [0, 1] [0, 1, 2, 3] rfl rfl rfl rfl ?_
    refine V_iconst hC 0 dX9_advance_22 (by decide) ?_
    refine V_istore_n hC [(2, .int 0), (0, .ref h0), (1, .int p1)] rfl (by decide) rfl dX9_advance_23 ?_
    refine V_cast [(0, .ref h0), (1, .int p1), (2, .int 0)] [] [(h0, .inr (8, [.ref h1, .ref h2, .int s4, .ref h3, .long n_hash])), (h1, .inl (E.2.1, 404, .inl a_now)), (h2, .inl (E.2.1, 1212, .inl g3)), (h3, .inl (E.2.1, 9, .inl a_errors))] [1, 2, 0] [0, 1, 2, 3] rfl rfl rfl rfl ?_
    obtain ⟨n8, hw⟩ := hw
    exact bl_X9_advance_24 hC hr h0 h1 h2 h3 n_hash K n8 p1 0 a_now g3 s4 a_errors hw
  · have hw := hw.2 c2
    refine V_aload_n hC 0 rfl rfl dX9_advance_11 ?_
    refine V_bipush hC (-2) dX9_advance_12 (by decide) ?_
    refine V_callV hC (wr := []) 1 [.int (-2)] [] (ct_X9_fails l E h0 h1 h2 h3 a_now a_past n_saved a_errors n_hash (-2) _ hw) wd_634 wd_40 wd_631 wd_633 wd_12 (by decide +kernel) rfl ⟨Nat.le_of_ble_eq_true rfl, Nat.le_of_ble_eq_true rfl⟩ [0, 1, 2, 3] [] rfl rfl rfl rfl (by decide) rfl rfl rfl (Nat.le_of_ble_eq_true rfl) ⟨Nat.le_of_ble_eq_true rfl, Nat.le_of_ble_eq_true rfl⟩ dX9_advance_14 (fun v ws' hp => ?_)
    obtain ⟨r7, g8, rfl, rfl, hw⟩ := hp
    refine V_cast [(0, .ref h0), (1, .int p1)] [.int r7] [(h0, .inr (8, [.ref h1, .ref h2, .int n_saved, .ref h3, .long n_hash])), (h1, .inl (E.2.1, 404, .inl a_now)), (h2, .inl (E.2.1, 1212, .inl a_past)), (h3, .inl (E.2.1, 9, .inl g8))] [0, 1] [0, 1, 2, 3] rfl rfl rfl rfl ?_
    exact V_iret hC hr ⟨r7, a_now, a_past, n_saved, g8, rfl, rfl, hw⟩ dX9_advance_17
abbrev po_X9_rotateKey (E : EN) (h0 : Nat) (h1 : Nat) (h2 : Nat) (h3 : Nat) (n_hash : Int64) (K : Int32 → (Nat → Int32) → (Nat → Int32) → Int32 → (Nat → Int32) → Prop) : Option Value → va_W → Prop := fun v ws' => ∃ (r0 : Int32) (a_now : Nat → Int32) (a_past : Nat → Int32) (n_saved : Int32) (a_errors : Nat → Int32), v = some (.int r0) ∧ ws' = [(h0, .inr (8, [.ref h1, .ref h2, .int n_saved, .ref h3, .long n_hash])), (h1, .inl (E.2.1, 404, .inl a_now)), (h2, .inl (E.2.1, 1212, .inl a_past)), (h3, .inl (E.2.1, 9, .inl a_errors))] ∧ K r0 a_now a_past n_saved a_errors
def wp_X9_rotateKey (a_now : Nat → Int32) (a_past : Nat → Int32) (n_saved : Int32) (a_errors : Nat → Int32) (n_hash : Int64) (p1 : Int32) (K : Int32 → (Nat → Int32) → (Nat → Int32) → Int32 → (Nat → Int32) → Prop) : Prop := (wp_X9_within p1 0 65520 (fun (r1 : Int32) => ((¬ r1 = 0 → (wp_X9_saves a_now a_past n_saved a_errors n_hash (fun (g3 : Nat → Int32) (s4 : Int32) => (∀ f5 : Nat → Int32, f5 = upd a_now 2 (a_now 1) → (∀ f6 : Nat → Int32, f6 = upd f5 1 p1 → K (f6 2) f6 g3 s4 a_errors))))) ∧ (r1 = 0 → (wp_X9_fails a_now a_past n_saved a_errors n_hash (-2) (fun (r7 : Int32) (g8 : Nat → Int32) => K r7 a_now a_past n_saved g8))))))
set_option maxRecDepth 100000 in
set_option maxHeartbeats 4000000 in
theorem ct_X9_rotateKey (l : Launch) (E : EN) (h0 : Nat) (h1 : Nat) (h2 : Nat) (h3 : Nat) (a_now : Nat → Int32) (a_past : Nat → Int32) (n_saved : Int32) (a_errors : Nat → Int32) (n_hash : Int64) (p1 : Int32) (K : Int32 → (Nat → Int32) → (Nat → Int32) → Int32 → (Nat → Int32) → Prop) (hw : wp_X9_rotateKey a_now a_past n_saved a_errors n_hash p1 K) : Con l yX9_rotateKey cX9_rotateKey 2 (some .int) { frames := 1, cells := 0, slots := 0, locals := 22 } E [.ref h0, .int p1] [(h0, .inr (8, [.ref h1, .ref h2, .int n_saved, .ref h3, .long n_hash])), (h1, .inl (E.2.1, 404, .inl a_now)), (h2, .inl (E.2.1, 1212, .inl a_past)), (h3, .inl (E.2.1, 9, .inl a_errors))] (po_X9_rotateKey E h0 h1 h2 h3 n_hash K) := by
  refine Con.mk (by decide +kernel) (Nat.le_of_ble_eq_true rfl) ?_
  intro p e s m below meth c A hC hr hin
  have hC : Cx p s m _ meth c E A cX9_rotateKey 2 "CookieServerModel" := hC
  rw [wp_X9_rotateKey] at hw
  refine V_cast [(0, .ref h0), (1, .int p1)] [] [(h0, .inr (8, [.ref h1, .ref h2, .int n_saved, .ref h3, .long n_hash])), (h1, .inl (E.2.1, 404, .inl a_now)), (h2, .inl (E.2.1, 1212, .inl a_past)), (h3, .inl (E.2.1, 9, .inl a_errors))] [0, 1] [0, 1, 2, 3] rfl rfl rfl rfl ?_
  refine V_iload_n hC 1 rfl rfl dX9_rotateKey_0 ?_
  refine V_iconst hC 0 dX9_rotateKey_1 (by decide) ?_
  refine V_ldc hC 65520 wd_670 dX9_rotateKey_2 ?_
  refine V_callS hC (wr := [(h0, .inr (8, [.ref h1, .ref h2, .int n_saved, .ref h3, .long n_hash])), (h1, .inl (E.2.1, 404, .inl a_now)), (h2, .inl (E.2.1, 1212, .inl a_past)), (h3, .inl (E.2.1, 9, .inl a_errors))]) 3 [.int p1, .int 0, .int 65520] [] (ct_X9_within l E p1 0 65520 _ hw) wd_641 wd_40 wd_639 wd_640 (by decide +kernel) rfl ⟨Nat.le_of_ble_eq_true rfl, Nat.le_of_ble_eq_true rfl⟩ [] [0, 1, 2, 3] rfl rfl rfl rfl (by decide) rfl (Nat.le_of_ble_eq_true rfl) ⟨Nat.le_of_ble_eq_true rfl, Nat.le_of_ble_eq_true rfl⟩ dX9_rotateKey_4 (fun v ws' hp => ?_)
  obtain ⟨r1, rfl, rfl, hw⟩ := hp
  refine V_cast [(0, .ref h0), (1, .int p1)] [.int r1] [(h0, .inr (8, [.ref h1, .ref h2, .int n_saved, .ref h3, .long n_hash])), (h1, .inl (E.2.1, 404, .inl a_now)), (h2, .inl (E.2.1, 1212, .inl a_past)), (h3, .inl (E.2.1, 9, .inl a_errors))] [0, 1] [0, 1, 2, 3] rfl rfl rfl rfl ?_
  refine V_if_ne hC 17 (by decide) dX9_rotateKey_7 (fun c2 => ?_) (fun c2 => ?_)
  · have hw := hw.1 c2
    refine V_aload_n hC 0 rfl rfl dX9_rotateKey_17 ?_
    refine V_callV hC (wr := []) 0 [] [] (ct_X9_saves l E h0 h1 h2 h3 a_now a_past n_saved a_errors n_hash _ hw) wd_645 wd_40 wd_642 wd_644 wd_13 (by decide +kernel) rfl ⟨Nat.le_of_ble_eq_true rfl, Nat.le_of_ble_eq_true rfl⟩ [0, 1, 2, 3] [] rfl rfl rfl rfl (by decide) rfl rfl rfl (Nat.le_of_ble_eq_true rfl) ⟨Nat.le_of_ble_eq_true rfl, Nat.le_of_ble_eq_true rfl⟩ dX9_rotateKey_18 (fun v ws' hp => ?_)
    obtain ⟨g3, s4, rfl, rfl, hw⟩ := hp
    refine V_cast [(0, .ref h0), (1, .int p1)] [] [(h0, .inr (8, [.ref h1, .ref h2, .int s4, .ref h3, .long n_hash])), (h1, .inl (E.2.1, 404, .inl a_now)), (h2, .inl (E.2.1, 1212, .inl g3)), (h3, .inl (E.2.1, 9, .inl a_errors))] [0, 1] [0, 1, 2, 3] rfl rfl rfl rfl ?_
    refine V_aload_n hC 0 rfl rfl dX9_rotateKey_21 ?_
    refine V_get hC inX9 rfl 0 (by decide) wd_611 0 rfl rfl dX9_rotateKey_22 ?_
    refine V_iconst hC 2 dX9_rotateKey_25 (by decide) ?_
    refine V_aload_n hC 0 rfl rfl dX9_rotateKey_26 ?_
    refine V_get hC inX9 rfl 0 (by decide) wd_611 0 rfl rfl dX9_rotateKey_27 ?_
    refine V_iconst hC 1 dX9_rotateKey_30 (by decide) ?_
    refine V_iald hC 1 (by decide) 1 rfl (by unfold vp_in; decide) dX9_rotateKey_31 ?_
    refine V_iast hC 2 (by decide) 1 rfl (by unfold vp_in; decide) dX9_rotateKey_32 (fun f5 ef5 => ?_)
    have hw := hw f5 ef5
    refine V_ws [(h0, .inr (8, [.ref h1, .ref h2, .int s4, .ref h3, .long n_hash])), (h1, .inl (E.2.1, 404, .inl f5)), (h2, .inl (E.2.1, 1212, .inl g3)), (h3, .inl (E.2.1, 9, .inl a_errors))] rfl ?_
    refine V_aload_n hC 0 rfl rfl dX9_rotateKey_33 ?_
    refine V_get hC inX9 rfl 0 (by decide) wd_611 0 rfl rfl dX9_rotateKey_34 ?_
    refine V_iconst hC 1 dX9_rotateKey_37 (by decide) ?_
    refine V_iload_n hC 1 rfl rfl dX9_rotateKey_38 ?_
    refine V_iast hC 1 (by decide) 1 rfl (by unfold vp_in; decide) dX9_rotateKey_39 (fun f6 ef6 => ?_)
    have hw := hw f6 ef6
    refine V_ws [(h0, .inr (8, [.ref h1, .ref h2, .int s4, .ref h3, .long n_hash])), (h1, .inl (E.2.1, 404, .inl f6)), (h2, .inl (E.2.1, 1212, .inl g3)), (h3, .inl (E.2.1, 9, .inl a_errors))] rfl ?_
    refine V_aload_n hC 0 rfl rfl dX9_rotateKey_40 ?_
    refine V_get hC inX9 rfl 0 (by decide) wd_611 0 rfl rfl dX9_rotateKey_41 ?_
    refine V_iconst hC 2 dX9_rotateKey_44 (by decide) ?_
    refine V_iald hC 2 (by decide) 1 rfl (by unfold vp_in; decide) dX9_rotateKey_45 ?_
    exact V_iret hC hr ⟨f6 2, f6, g3, s4, a_errors, rfl, rfl, hw⟩ dX9_rotateKey_46
  · have hw := hw.2 c2
    refine V_aload_n hC 0 rfl rfl dX9_rotateKey_10 ?_
    refine V_bipush hC (-2) dX9_rotateKey_11 (by decide) ?_
    refine V_callV hC (wr := []) 1 [.int (-2)] [] (ct_X9_fails l E h0 h1 h2 h3 a_now a_past n_saved a_errors n_hash (-2) _ hw) wd_634 wd_40 wd_631 wd_633 wd_12 (by decide +kernel) rfl ⟨Nat.le_of_ble_eq_true rfl, Nat.le_of_ble_eq_true rfl⟩ [0, 1, 2, 3] [] rfl rfl rfl rfl (by decide) rfl rfl rfl (Nat.le_of_ble_eq_true rfl) ⟨Nat.le_of_ble_eq_true rfl, Nat.le_of_ble_eq_true rfl⟩ dX9_rotateKey_13 (fun v ws' hp => ?_)
    obtain ⟨r7, g8, rfl, rfl, hw⟩ := hp
    refine V_cast [(0, .ref h0), (1, .int p1)] [.int r7] [(h0, .inr (8, [.ref h1, .ref h2, .int n_saved, .ref h3, .long n_hash])), (h1, .inl (E.2.1, 404, .inl a_now)), (h2, .inl (E.2.1, 1212, .inl a_past)), (h3, .inl (E.2.1, 9, .inl g8))] [0, 1] [0, 1, 2, 3] rfl rfl rfl rfl ?_
    exact V_iret hC hr ⟨r7, a_now, a_past, n_saved, g8, rfl, rfl, hw⟩ dX9_rotateKey_16
abbrev po_X9_more (E : EN) (K : Int64 → Prop) : Option Value → va_W → Prop := fun v ws' => ∃ (r0 : Int64), v = some (.long r0) ∧ ws' = [] ∧ K r0
def wp_X9_more (p1 : Int64) (p2 : Int32) (K : Int64 → Prop) : Prop := K (jlrem (((p1 * 16807) + (Int32.toInt64 p2)) + 1) 65521)
set_option maxRecDepth 100000 in
set_option maxHeartbeats 4000000 in
theorem ct_X9_more (l : Launch) (E : EN) (p1 : Int64) (p2 : Int32) (K : Int64 → Prop) (hw : wp_X9_more p1 p2 K) : Con l yX9_more cX9_more 3 (some .long) { frames := 0, cells := 0, slots := 0, locals := 0 } E [.long p1, .int p2] [] (po_X9_more E K) := by
  refine Con.mk (by decide +kernel) (Nat.le_of_ble_eq_true rfl) ?_
  intro p e s m below meth c A hC hr hin
  have hC : Cx p s m _ meth c E A cX9_more 3 "CookieServerModel" := hC
  rw [wp_X9_more] at hw
  refine V_cast [(0, .long p1), (2, .int p2)] [] [] [0, 1] [] rfl rfl rfl rfl ?_
  refine V_lload_n hC 0 rfl rfl dX9_more_0 ?_
  refine V_ldc2 hC 16807 wd_698 dX9_more_1 ?_
  refine V_lmul hC dX9_more_4 ?_
  refine V_iload_n hC 1 rfl rfl dX9_more_5 ?_
  refine V_i2l hC dX9_more_6 ?_
  refine V_ladd hC dX9_more_7 ?_
  refine V_lconst hC 1 dX9_more_8 (by decide) ?_
  refine V_ladd hC dX9_more_9 ?_
  refine V_ldc2 hC 65521 wd_699 dX9_more_10 ?_
  refine V_lrem hC (by decide) dX9_more_13 ?_
  exact V_lret hC hr ⟨jlrem (((p1 * 16807) + (Int32.toInt64 p2)) + 1) 65521, rfl, rfl, hw⟩ dX9_more_14
abbrev po_X9_markOf (E : EN) (K : Int32 → Prop) : Option Value → va_W → Prop := fun v ws' => ∃ (r0 : Int32), v = some (.int r0) ∧ ws' = [] ∧ K r0
def wp_X9_markOf (p1 : Int32) (p2 : Int32) (p3 : Int32) (p4 : Int32) (p5 : Int32) (K : Int32 → Prop) : Prop := (wp_X9_more (Int32.toInt64 p5) p1 (fun (r1 : Int64) => (wp_X9_more r1 p2 (fun (r2 : Int64) => (wp_X9_more r2 p3 (fun (r3 : Int64) => (wp_X9_more r3 p4 (fun (r4 : Int64) => K (Int64.toInt32 (jlrem r4 4096))))))))))
set_option maxRecDepth 100000 in
set_option maxHeartbeats 4000000 in
theorem ct_X9_markOf (l : Launch) (E : EN) (p1 : Int32) (p2 : Int32) (p3 : Int32) (p4 : Int32) (p5 : Int32) (K : Int32 → Prop) (hw : wp_X9_markOf p1 p2 p3 p4 p5 K) : Con l yX9_markOf cX9_markOf 5 (some .int) { frames := 1, cells := 0, slots := 0, locals := 22 } E [.int p1, .int p2, .int p3, .int p4, .int p5] [] (po_X9_markOf E K) := by
  refine Con.mk (by decide +kernel) (Nat.le_of_ble_eq_true rfl) ?_
  intro p e s m below meth c A hC hr hin
  have hC : Cx p s m _ meth c E A cX9_markOf 5 "CookieServerModel" := hC
  rw [wp_X9_markOf] at hw
  refine V_cast [(0, .int p1), (1, .int p2), (2, .int p3), (3, .int p4), (4, .int p5)] [] [] [0, 1, 2, 3, 4] [] rfl rfl rfl rfl ?_
  refine V_iload hC 4 rfl dX9_markOf_0 ?_
  refine V_i2l hC dX9_markOf_2 ?_
  refine V_iload_n hC 0 rfl rfl dX9_markOf_3 ?_
  refine V_callS hC (wr := []) 2 [.long (Int32.toInt64 p5), .int p1] [] (ct_X9_more l E (Int32.toInt64 p5) p1 _ hw) wd_697 wd_40 wd_695 wd_696 (by decide +kernel) rfl ⟨Nat.le_of_ble_eq_true rfl, Nat.le_of_ble_eq_true rfl⟩ [] [] rfl rfl rfl rfl (by decide) rfl (Nat.le_of_ble_eq_true rfl) ⟨Nat.le_of_ble_eq_true rfl, Nat.le_of_ble_eq_true rfl⟩ dX9_markOf_4 (fun v ws' hp => ?_)
  obtain ⟨r1, rfl, rfl, hw⟩ := hp
  refine V_cast [(0, .int p1), (1, .int p2), (2, .int p3), (3, .int p4), (4, .int p5)] [.long r1] [] [0, 1, 2, 3, 4] [] rfl rfl rfl rfl ?_
  refine V_iload_n hC 1 rfl rfl dX9_markOf_7 ?_
  refine V_callS hC (wr := []) 2 [.long r1, .int p2] [] (ct_X9_more l E r1 p2 _ hw) wd_697 wd_40 wd_695 wd_696 (by decide +kernel) rfl ⟨Nat.le_of_ble_eq_true rfl, Nat.le_of_ble_eq_true rfl⟩ [] [] rfl rfl rfl rfl (by decide) rfl (Nat.le_of_ble_eq_true rfl) ⟨Nat.le_of_ble_eq_true rfl, Nat.le_of_ble_eq_true rfl⟩ dX9_markOf_8 (fun v ws' hp => ?_)
  obtain ⟨r2, rfl, rfl, hw⟩ := hp
  refine V_cast [(0, .int p1), (1, .int p2), (2, .int p3), (3, .int p4), (4, .int p5)] [.long r2] [] [0, 1, 2, 3, 4] [] rfl rfl rfl rfl ?_
  refine V_iload_n hC 2 rfl rfl dX9_markOf_11 ?_
  refine V_callS hC (wr := []) 2 [.long r2, .int p3] [] (ct_X9_more l E r2 p3 _ hw) wd_697 wd_40 wd_695 wd_696 (by decide +kernel) rfl ⟨Nat.le_of_ble_eq_true rfl, Nat.le_of_ble_eq_true rfl⟩ [] [] rfl rfl rfl rfl (by decide) rfl (Nat.le_of_ble_eq_true rfl) ⟨Nat.le_of_ble_eq_true rfl, Nat.le_of_ble_eq_true rfl⟩ dX9_markOf_12 (fun v ws' hp => ?_)
  obtain ⟨r3, rfl, rfl, hw⟩ := hp
  refine V_cast [(0, .int p1), (1, .int p2), (2, .int p3), (3, .int p4), (4, .int p5)] [.long r3] [] [0, 1, 2, 3, 4] [] rfl rfl rfl rfl ?_
  refine V_iload_n hC 3 rfl rfl dX9_markOf_15 ?_
  refine V_callS hC (wr := []) 2 [.long r3, .int p4] [] (ct_X9_more l E r3 p4 _ hw) wd_697 wd_40 wd_695 wd_696 (by decide +kernel) rfl ⟨Nat.le_of_ble_eq_true rfl, Nat.le_of_ble_eq_true rfl⟩ [] [] rfl rfl rfl rfl (by decide) rfl (Nat.le_of_ble_eq_true rfl) ⟨Nat.le_of_ble_eq_true rfl, Nat.le_of_ble_eq_true rfl⟩ dX9_markOf_16 (fun v ws' hp => ?_)
  obtain ⟨r4, rfl, rfl, hw⟩ := hp
  refine V_cast [(0, .int p1), (1, .int p2), (2, .int p3), (3, .int p4), (4, .int p5)] [.long r4] [] [0, 1, 2, 3, 4] [] rfl rfl rfl rfl ?_
  refine V_ldc2 hC 4096 wd_700 dX9_markOf_19 ?_
  refine V_lrem hC (by decide) dX9_markOf_22 ?_
  refine V_l2i hC dX9_markOf_23 ?_
  exact V_iret hC hr ⟨Int64.toInt32 (jlrem r4 4096), rfl, rfl, hw⟩ dX9_markOf_24
abbrev po_X9_isSolution (E : EN) (K : Int32 → Prop) : Option Value → va_W → Prop := fun v ws' => ∃ (r0 : Int32), v = some (.int r0) ∧ ws' = [] ∧ K r0
def wpl_X9_isSolution_17 (K : Int32 → Prop) : Nat → Int32 → Int32 → Int32 → Int64 → Int32 → Prop
  | 0, _, _, _, _, _ => False
  | n9 + 1, x0, x1, x2, x3, x5 => ((x2 ≤ x5 → K 1) ∧ (¬ (x2 ≤ x5) → ((¬ (lg_cmp (jlrem x3 2) 1) = 0 → wpl_X9_isSolution_17 K n9 x0 x1 x2 (x3 / 2) (x5 + 1)) ∧ ((lg_cmp (jlrem x3 2) 1) = 0 → K 0))))
set_option maxRecDepth 100000 in
set_option maxHeartbeats 4000000 in
theorem bl_X9_isSolution_17 {p : Program} {l : Launch} {e : Env} {s : State} {m : MethodId} {args : Array Value} {below : List Frame} {meth : Method} {c : Code} {E : EN} {A : Nat → Prop} (hC : Cx p s m args meth c E A cX9_isSolution 6 "CookieServerModel") (hr : meth.sig.returnType = some .boolean) (K : Int32 → Prop) : ∀ (n8 : Nat) (x0 : Int32) (x1 : Int32) (x2 : Int32) (x3 : Int64) (x5 : Int32), wpl_X9_isSolution_17 K n8 x0 x1 x2 x3 x5 → V p l e { frames := 1, cells := 0, slots := 0, locals := 22 } s m args below meth c E A 6 0 0 (MQ below (QP E (po_X9_isSolution E K) A) args s 0 0 A) 17 [(0, .int x0), (1, .int x1), (2, .int x2), (3, .long x3), (5, .int x5)] [] [] := by
  intro n8
  induction n8 with
  | zero => intro x0 x1 x2 x3 x5 hw; rw [wpl_X9_isSolution_17] at hw; exact hw.elim
  | succ n9 ih =>
    intro x0 x1 x2 x3 x5 hw
    rw [wpl_X9_isSolution_17] at hw
    refine V_iload hC 4 rfl dX9_isSolution_17 ?_
    refine V_iload_n hC 2 rfl rfl dX9_isSolution_19 ?_
    refine V_icmp_ge hC 47 (by decide) dX9_isSolution_20 (fun c3 => ?_) (fun c3 => ?_)
    · have hw := hw.1 c3
      refine V_iconst hC 1 dX9_isSolution_47 (by decide) ?_
      exact V_zret hC hr rfl ⟨1, rfl, rfl, hw⟩ dX9_isSolution_48
    · have hw := hw.2 c3
      refine V_lload_n hC 3 rfl rfl dX9_isSolution_23 ?_
      refine V_ldc2 hC 2 wd_736 dX9_isSolution_24 ?_
      refine V_lrem hC (by decide) dX9_isSolution_27 ?_
      refine V_lconst hC 1 dX9_isSolution_28 (by decide) ?_
      refine V_lcmp hC dX9_isSolution_29 ?_
      refine V_if_ne hC 35 (by decide) dX9_isSolution_30 (fun c4 => ?_) (fun c4 => ?_)
      · have hw := hw.1 c4
        refine V_lload_n hC 3 rfl rfl dX9_isSolution_35 ?_
        refine V_ldc2 hC 2 wd_736 dX9_isSolution_36 ?_
        refine V_ldiv hC (by decide) dX9_isSolution_39 ?_
        refine V_lstore_n hC [(3, .long (x3 / 2)), (0, .int x0), (1, .int x1), (2, .int x2), (5, .int x5)] rfl (by decide) rfl dX9_isSolution_40 ?_
        refine V_iinc hC (x5 + 1) 4 [(5, .int (x5 + 1)), (3, .long (x3 / 2)), (0, .int x0), (1, .int x1), (2, .int x2)] rfl (congrArg (fun z => x5 + z) (by decide : Int32.ofInt (1) = (1 : Int32))) (by decide) rfl dX9_isSolution_41 ?_
        refine V_goto hC 17 (by decide) dX9_isSolution_44 ?_
        refine V_cast [(0, .int x0), (1, .int x1), (2, .int x2), (3, .long (x3 / 2)), (5, .int (x5 + 1))] [] [] [2, 3, 4, 1, 0] [] rfl rfl rfl rfl ?_
        exact ih x0 x1 x2 (x3 / 2) (x5 + 1) hw
      · have hw := hw.2 c4
        refine V_iconst hC 0 dX9_isSolution_33 (by decide) ?_
        exact V_zret hC hr rfl ⟨0, rfl, rfl, hw⟩ dX9_isSolution_34
def wp_X9_isSolution (p1 : Int32) (p2 : Int32) (p3 : Int32) (K : Int32 → Prop) : Prop := (wp_X9_more 0 p1 (fun (r1 : Int64) => (wp_X9_more r1 p2 (fun (r2 : Int64) => (∃ n8 : Nat, wpl_X9_isSolution_17 K n8 p1 p2 p3 (jlrem r2 4096) 0)))))
set_option maxRecDepth 100000 in
set_option maxHeartbeats 4000000 in
theorem ct_X9_isSolution (l : Launch) (E : EN) (p1 : Int32) (p2 : Int32) (p3 : Int32) (K : Int32 → Prop) (hw : wp_X9_isSolution p1 p2 p3 K) : Con l yX9_isSolution cX9_isSolution 6 (some .boolean) { frames := 1, cells := 0, slots := 0, locals := 22 } E [.int p1, .int p2, .int p3] [] (po_X9_isSolution E K) := by
  refine Con.mk (by decide +kernel) (Nat.le_of_ble_eq_true rfl) ?_
  intro p e s m below meth c A hC hr hin
  have hC : Cx p s m _ meth c E A cX9_isSolution 6 "CookieServerModel" := hC
  rw [wp_X9_isSolution] at hw
  refine V_cast [(0, .int p1), (1, .int p2), (2, .int p3)] [] [] [0, 1, 2] [] rfl rfl rfl rfl ?_
  refine V_lconst hC 0 dX9_isSolution_0 (by decide) ?_
  refine V_iload_n hC 0 rfl rfl dX9_isSolution_1 ?_
  refine V_callS hC (wr := []) 2 [.long 0, .int p1] [] (ct_X9_more l E 0 p1 _ hw) wd_697 wd_40 wd_695 wd_696 (by decide +kernel) rfl ⟨Nat.le_of_ble_eq_true rfl, Nat.le_of_ble_eq_true rfl⟩ [] [] rfl rfl rfl rfl (by decide) rfl (Nat.le_of_ble_eq_true rfl) ⟨Nat.le_of_ble_eq_true rfl, Nat.le_of_ble_eq_true rfl⟩ dX9_isSolution_2 (fun v ws' hp => ?_)
  obtain ⟨r1, rfl, rfl, hw⟩ := hp
  refine V_cast [(0, .int p1), (1, .int p2), (2, .int p3)] [.long r1] [] [0, 1, 2] [] rfl rfl rfl rfl ?_
  refine V_iload_n hC 1 rfl rfl dX9_isSolution_5 ?_
  refine V_callS hC (wr := []) 2 [.long r1, .int p2] [] (ct_X9_more l E r1 p2 _ hw) wd_697 wd_40 wd_695 wd_696 (by decide +kernel) rfl ⟨Nat.le_of_ble_eq_true rfl, Nat.le_of_ble_eq_true rfl⟩ [] [] rfl rfl rfl rfl (by decide) rfl (Nat.le_of_ble_eq_true rfl) ⟨Nat.le_of_ble_eq_true rfl, Nat.le_of_ble_eq_true rfl⟩ dX9_isSolution_6 (fun v ws' hp => ?_)
  obtain ⟨r2, rfl, rfl, hw⟩ := hp
  refine V_cast [(0, .int p1), (1, .int p2), (2, .int p3)] [.long r2] [] [0, 1, 2] [] rfl rfl rfl rfl ?_
  refine V_ldc2 hC 4096 wd_700 dX9_isSolution_9 ?_
  refine V_lrem hC (by decide) dX9_isSolution_12 ?_
  refine V_lstore_n hC [(3, .long (jlrem r2 4096)), (0, .int p1), (1, .int p2), (2, .int p3)] rfl (by decide) rfl dX9_isSolution_13 ?_
  refine V_iconst hC 0 dX9_isSolution_14 (by decide) ?_
  refine V_istore hC [(5, .int 0), (3, .long (jlrem r2 4096)), (0, .int p1), (1, .int p2), (2, .int p3)] (by decide) rfl dX9_isSolution_15 ?_
  refine V_cast [(0, .int p1), (1, .int p2), (2, .int p3), (3, .long (jlrem r2 4096)), (5, .int 0)] [] [] [2, 3, 4, 1, 0] [] rfl rfl rfl rfl ?_
  obtain ⟨n8, hw⟩ := hw
  exact bl_X9_isSolution_17 hC hr K n8 p1 p2 p3 (jlrem r2 4096) 0 hw
abbrev po_X9_loadNow (E : EN) (h0 : Nat) (h1 : Nat) (h2 : Nat) (h3 : Nat) (a_now : Nat → Int32) (a_past : Nat → Int32) (n_saved : Int32) (a_errors : Nat → Int32) (n_hash : Int64) (K : Int32 → Prop) : Option Value → va_W → Prop := fun v ws' => ∃ (r0 : Int32), v = some (.int r0) ∧ ws' = [(h0, .inr (8, [.ref h1, .ref h2, .int n_saved, .ref h3, .long n_hash])), (h1, .inl (E.2.1, 404, .inl a_now)), (h2, .inl (E.2.1, 1212, .inl a_past)), (h3, .inl (E.2.1, 9, .inl a_errors))] ∧ K r0
def wpl_X9_loadNow_4 (a_now : Nat → Int32) (a_past : Nat → Int32) (n_saved : Int32) (a_errors : Nat → Int32) (n_hash : Int64) (K : Int32 → Prop) : Nat → Int32 → Int32 → Prop
  | 0, _, _ => False
  | n9 + 1, x1, x2 => ((16 ≤ x2 → K x1) ∧ (¬ (16 ≤ x2) → (vp_in (8 + x2) 404 ∧ wpl_X9_loadNow_4 a_now a_past n_saved a_errors n_hash K n9 (x1 + (a_now (Int32.toNatClampNeg (8 + x2)))) (x2 + 1))))
set_option maxRecDepth 100000 in
set_option maxHeartbeats 4000000 in
theorem bl_X9_loadNow_4 {p : Program} {l : Launch} {e : Env} {s : State} {m : MethodId} {args : Array Value} {below : List Frame} {meth : Method} {c : Code} {E : EN} {A : Nat → Prop} (hC : Cx p s m args meth c E A cX9_loadNow 3 "CookieServerModel") (hr : meth.sig.returnType = some .int) (h0 : Nat) (h1 : Nat) (h2 : Nat) (h3 : Nat) (a_now : Nat → Int32) (a_past : Nat → Int32) (n_saved : Int32) (a_errors : Nat → Int32) (n_hash : Int64) (K : Int32 → Prop) : ∀ (n8 : Nat) (x1 : Int32) (x2 : Int32), wpl_X9_loadNow_4 a_now a_past n_saved a_errors n_hash K n8 x1 x2 → V p l e { frames := 0, cells := 0, slots := 0, locals := 0 } s m args below meth c E A 3 0 0 (MQ below (QP E (po_X9_loadNow E h0 h1 h2 h3 a_now a_past n_saved a_errors n_hash K) A) args s 0 0 A) 4 [(0, .ref h0), (1, .int x1), (2, .int x2)] [] [(h0, .inr (8, [.ref h1, .ref h2, .int n_saved, .ref h3, .long n_hash])), (h1, .inl (E.2.1, 404, .inl a_now)), (h2, .inl (E.2.1, 1212, .inl a_past)), (h3, .inl (E.2.1, 9, .inl a_errors))] := by
  intro n8
  induction n8 with
  | zero => intro x1 x2 hw; rw [wpl_X9_loadNow_4] at hw; exact hw.elim
  | succ n9 ih =>
    intro x1 x2 hw
    rw [wpl_X9_loadNow_4] at hw
    refine V_iload_n hC 2 rfl rfl dX9_loadNow_4 ?_
    refine V_bipush hC 16 dX9_loadNow_5 (by decide) ?_
    refine V_icmp_ge hC 28 (by decide) dX9_loadNow_7 (fun c1 => ?_) (fun c1 => ?_)
    · have hw := hw.1 c1
      refine V_iload_n hC 1 rfl rfl dX9_loadNow_28 ?_
      exact V_iret hC hr ⟨x1, rfl, rfl, hw⟩ dX9_loadNow_29
    · have hw := hw.2 c1
      refine V_iload_n hC 1 rfl rfl dX9_loadNow_10 ?_
      refine V_aload_n hC 0 rfl rfl dX9_loadNow_11 ?_
      refine V_get hC inX9 rfl 0 (by decide) wd_611 0 rfl rfl dX9_loadNow_12 ?_
      refine V_bipush hC 8 dX9_loadNow_15 (by decide) ?_
      refine V_iload_n hC 2 rfl rfl dX9_loadNow_17 ?_
      refine V_iadd hC dX9_loadNow_18 ?_
      refine V_iald hC _ rfl 1 rfl hw.1 dX9_loadNow_19 ?_
      have hw := hw.2
      refine V_iadd hC dX9_loadNow_20 ?_
      refine V_istore_n hC [(1, .int (x1 + (a_now (Int32.toNatClampNeg (8 + x2))))), (0, .ref h0), (2, .int x2)] rfl (by decide) rfl dX9_loadNow_21 ?_
      refine V_iinc hC (x2 + 1) 2 [(2, .int (x2 + 1)), (1, .int (x1 + (a_now (Int32.toNatClampNeg (8 + x2))))), (0, .ref h0)] rfl (congrArg (fun z => x2 + z) (by decide : Int32.ofInt (1) = (1 : Int32))) (by decide) rfl dX9_loadNow_22 ?_
      refine V_goto hC 4 (by decide) dX9_loadNow_25 ?_
      refine V_cast [(0, .ref h0), (1, .int (x1 + (a_now (Int32.toNatClampNeg (8 + x2))))), (2, .int (x2 + 1))] [] [(h0, .inr (8, [.ref h1, .ref h2, .int n_saved, .ref h3, .long n_hash])), (h1, .inl (E.2.1, 404, .inl a_now)), (h2, .inl (E.2.1, 1212, .inl a_past)), (h3, .inl (E.2.1, 9, .inl a_errors))] [2, 1, 0] [0, 1, 2, 3] rfl rfl rfl rfl ?_
      exact ih (x1 + (a_now (Int32.toNatClampNeg (8 + x2)))) (x2 + 1) hw
def wp_X9_loadNow (a_now : Nat → Int32) (a_past : Nat → Int32) (n_saved : Int32) (a_errors : Nat → Int32) (n_hash : Int64) (K : Int32 → Prop) : Prop := (∃ n8 : Nat, wpl_X9_loadNow_4 a_now a_past n_saved a_errors n_hash K n8 0 0)
set_option maxRecDepth 100000 in
set_option maxHeartbeats 4000000 in
theorem ct_X9_loadNow (l : Launch) (E : EN) (h0 : Nat) (h1 : Nat) (h2 : Nat) (h3 : Nat) (a_now : Nat → Int32) (a_past : Nat → Int32) (n_saved : Int32) (a_errors : Nat → Int32) (n_hash : Int64) (K : Int32 → Prop) (hw : wp_X9_loadNow a_now a_past n_saved a_errors n_hash K) : Con l yX9_loadNow cX9_loadNow 3 (some .int) { frames := 0, cells := 0, slots := 0, locals := 0 } E [.ref h0] [(h0, .inr (8, [.ref h1, .ref h2, .int n_saved, .ref h3, .long n_hash])), (h1, .inl (E.2.1, 404, .inl a_now)), (h2, .inl (E.2.1, 1212, .inl a_past)), (h3, .inl (E.2.1, 9, .inl a_errors))] (po_X9_loadNow E h0 h1 h2 h3 a_now a_past n_saved a_errors n_hash K) := by
  refine Con.mk (by decide +kernel) (Nat.le_of_ble_eq_true rfl) ?_
  intro p e s m below meth c A hC hr hin
  have hC : Cx p s m _ meth c E A cX9_loadNow 3 "CookieServerModel" := hC
  rw [wp_X9_loadNow] at hw
  refine V_cast [(0, .ref h0)] [] [(h0, .inr (8, [.ref h1, .ref h2, .int n_saved, .ref h3, .long n_hash])), (h1, .inl (E.2.1, 404, .inl a_now)), (h2, .inl (E.2.1, 1212, .inl a_past)), (h3, .inl (E.2.1, 9, .inl a_errors))] [0] [0, 1, 2, 3] rfl rfl rfl rfl ?_
  refine V_iconst hC 0 dX9_loadNow_0 (by decide) ?_
  refine V_istore_n hC [(1, .int 0), (0, .ref h0)] rfl (by decide) rfl dX9_loadNow_1 ?_
  refine V_iconst hC 0 dX9_loadNow_2 (by decide) ?_
  refine V_istore_n hC [(2, .int 0), (1, .int 0), (0, .ref h0)] rfl (by decide) rfl dX9_loadNow_3 ?_
  refine V_cast [(0, .ref h0), (1, .int 0), (2, .int 0)] [] [(h0, .inr (8, [.ref h1, .ref h2, .int n_saved, .ref h3, .long n_hash])), (h1, .inl (E.2.1, 404, .inl a_now)), (h2, .inl (E.2.1, 1212, .inl a_past)), (h3, .inl (E.2.1, 9, .inl a_errors))] [2, 1, 0] [0, 1, 2, 3] rfl rfl rfl rfl ?_
  obtain ⟨n8, hw⟩ := hw
  exact bl_X9_loadNow_4 hC hr h0 h1 h2 h3 a_now a_past n_saved a_errors n_hash K n8 0 0 hw
abbrev po_X9_difficultyNow (E : EN) (h0 : Nat) (h1 : Nat) (h2 : Nat) (h3 : Nat) (a_now : Nat → Int32) (a_past : Nat → Int32) (n_saved : Int32) (a_errors : Nat → Int32) (n_hash : Int64) (K : Int32 → Prop) : Option Value → va_W → Prop := fun v ws' => ∃ (r0 : Int32), v = some (.int r0) ∧ ws' = [(h0, .inr (8, [.ref h1, .ref h2, .int n_saved, .ref h3, .long n_hash])), (h1, .inl (E.2.1, 404, .inl a_now)), (h2, .inl (E.2.1, 1212, .inl a_past)), (h3, .inl (E.2.1, 9, .inl a_errors))] ∧ K r0
def wp_X9_difficultyNow (a_now : Nat → Int32) (a_past : Nat → Int32) (n_saved : Int32) (a_errors : Nat → Int32) (n_hash : Int64) (K : Int32 → Prop) : Prop := (wp_X9_loadNow a_now a_past n_saved a_errors n_hash (fun (r1 : Int32) => (((r1 / 8) ≤ 6 → K (r1 / 8)) ∧ (¬ ((r1 / 8) ≤ 6) → K 6))))
set_option maxRecDepth 100000 in
set_option maxHeartbeats 4000000 in
theorem ct_X9_difficultyNow (l : Launch) (E : EN) (h0 : Nat) (h1 : Nat) (h2 : Nat) (h3 : Nat) (a_now : Nat → Int32) (a_past : Nat → Int32) (n_saved : Int32) (a_errors : Nat → Int32) (n_hash : Int64) (K : Int32 → Prop) (hw : wp_X9_difficultyNow a_now a_past n_saved a_errors n_hash K) : Con l yX9_difficultyNow cX9_difficultyNow 2 (some .int) { frames := 1, cells := 0, slots := 0, locals := 22 } E [.ref h0] [(h0, .inr (8, [.ref h1, .ref h2, .int n_saved, .ref h3, .long n_hash])), (h1, .inl (E.2.1, 404, .inl a_now)), (h2, .inl (E.2.1, 1212, .inl a_past)), (h3, .inl (E.2.1, 9, .inl a_errors))] (po_X9_difficultyNow E h0 h1 h2 h3 a_now a_past n_saved a_errors n_hash K) := by
  refine Con.mk (by decide +kernel) (Nat.le_of_ble_eq_true rfl) ?_
  intro p e s m below meth c A hC hr hin
  have hC : Cx p s m _ meth c E A cX9_difficultyNow 2 "CookieServerModel" := hC
  rw [wp_X9_difficultyNow] at hw
  refine V_cast [(0, .ref h0)] [] [(h0, .inr (8, [.ref h1, .ref h2, .int n_saved, .ref h3, .long n_hash])), (h1, .inl (E.2.1, 404, .inl a_now)), (h2, .inl (E.2.1, 1212, .inl a_past)), (h3, .inl (E.2.1, 9, .inl a_errors))] [0] [0, 1, 2, 3] rfl rfl rfl rfl ?_
  refine V_aload_n hC 0 rfl rfl dX9_difficultyNow_0 ?_
  refine V_callV hC (wr := []) 0 [] [] (ct_X9_loadNow l E h0 h1 h2 h3 a_now a_past n_saved a_errors n_hash _ hw) wd_708 wd_40 wd_705 wd_707 wd_21 (by decide +kernel) rfl ⟨Nat.le_of_ble_eq_true rfl, Nat.le_of_ble_eq_true rfl⟩ [0, 1, 2, 3] [] rfl rfl rfl rfl (by decide) rfl rfl rfl (Nat.le_of_ble_eq_true rfl) ⟨Nat.le_of_ble_eq_true rfl, Nat.le_of_ble_eq_true rfl⟩ dX9_difficultyNow_1 (fun v ws' hp => ?_)
  obtain ⟨r1, rfl, rfl, hw⟩ := hp
  refine V_cast [(0, .ref h0)] [.int r1] [(h0, .inr (8, [.ref h1, .ref h2, .int n_saved, .ref h3, .long n_hash])), (h1, .inl (E.2.1, 404, .inl a_now)), (h2, .inl (E.2.1, 1212, .inl a_past)), (h3, .inl (E.2.1, 9, .inl a_errors))] [0] [0, 1, 2, 3] rfl rfl rfl rfl ?_
  refine V_bipush hC 8 dX9_difficultyNow_4 (by decide) ?_
  refine V_idiv hC (by decide) dX9_difficultyNow_6 ?_
  refine V_istore_n hC [(1, .int (r1 / 8)), (0, .ref h0)] rfl (by decide) rfl dX9_difficultyNow_7 ?_
  refine V_iload_n hC 0 rfl rfl dX9_difficultyNow_8 ?_
  refine V_bipush hC 6 dX9_difficultyNow_9 (by decide) ?_
  refine V_icmp_le hC 19 (by decide) dX9_difficultyNow_11 (fun c2 => ?_) (fun c2 => ?_)
  · have hw := hw.1 c2
    refine V_iload_n hC 0 rfl rfl dX9_difficultyNow_19 ?_
    exact V_iret hC hr ⟨r1 / 8, rfl, rfl, hw⟩ dX9_difficultyNow_20
  · have hw := hw.2 c2
    refine V_bipush hC 6 dX9_difficultyNow_14 (by decide) ?_
    refine V_goto hC 20 (by decide) dX9_difficultyNow_16 ?_
    exact V_iret hC hr ⟨6, rfl, rfl, hw⟩ dX9_difficultyNow_20
abbrev po_X9_sizeOf (E : EN) (K : Int32 → Prop) : Option Value → va_W → Prop := fun v ws' => ∃ (r0 : Int32), v = some (.int r0) ∧ ws' = [] ∧ K r0
def wp_X9_sizeOf (p1 : Int32) (K : Int32 → Prop) : Prop := ((p1 = 0 → K 64) ∧ (p1 = 1 → K 128) ∧ (p1 = 2 → K 256) ∧ (p1 = 3 → K 536) ∧ (p1 = 4 → K 1024) ∧ (p1 = 5 → K 1360) ∧ (p1 = 6 → K 1440) ∧ (¬ p1 = 0 ∧ ¬ p1 = 1 ∧ ¬ p1 = 2 ∧ ¬ p1 = 3 ∧ ¬ p1 = 4 ∧ ¬ p1 = 5 ∧ ¬ p1 = 6 → K 1460))
set_option maxRecDepth 100000 in
set_option maxHeartbeats 4000000 in
theorem ct_X9_sizeOf (l : Launch) (E : EN) (p1 : Int32) (K : Int32 → Prop) (hw : wp_X9_sizeOf p1 K) : Con l yX9_sizeOf cX9_sizeOf 1 (some .int) { frames := 0, cells := 0, slots := 0, locals := 0 } E [.int p1] [] (po_X9_sizeOf E K) := by
  refine Con.mk (by decide +kernel) (Nat.le_of_ble_eq_true rfl) ?_
  intro p e s m below meth c A hC hr hin
  have hC : Cx p s m _ meth c E A cX9_sizeOf 1 "CookieServerModel" := hC
  rw [wp_X9_sizeOf] at hw
  refine V_cast [(0, .int p1)] [] [] [0] [] rfl rfl rfl rfl ?_
  refine V_iload_n hC 0 rfl rfl dX9_sizeOf_0 ?_
  by_cases c1 : p1 = 0
  · have hw := hw.1 c1
    refine V_tableIn hC 44 (by rw [c1]; decide) (by rw [c1]; decide) (by rw [c1]; rfl) (by decide) dX9_sizeOf_1 ?_
    refine V_bipush hC 64 dX9_sizeOf_44 (by decide) ?_
    exact V_iret hC hr ⟨64, rfl, rfl, hw⟩ dX9_sizeOf_46
  by_cases c2 : p1 = 1
  · have hw := hw.2.1 c2
    refine V_tableIn hC 47 (by rw [c2]; decide) (by rw [c2]; decide) (by rw [c2]; rfl) (by decide) dX9_sizeOf_1 ?_
    refine V_sipush hC 128 dX9_sizeOf_47 (by decide) ?_
    exact V_iret hC hr ⟨128, rfl, rfl, hw⟩ dX9_sizeOf_50
  by_cases c3 : p1 = 2
  · have hw := hw.2.2.1 c3
    refine V_tableIn hC 51 (by rw [c3]; decide) (by rw [c3]; decide) (by rw [c3]; rfl) (by decide) dX9_sizeOf_1 ?_
    refine V_sipush hC 256 dX9_sizeOf_51 (by decide) ?_
    exact V_iret hC hr ⟨256, rfl, rfl, hw⟩ dX9_sizeOf_54
  by_cases c4 : p1 = 3
  · have hw := hw.2.2.2.1 c4
    refine V_tableIn hC 55 (by rw [c4]; decide) (by rw [c4]; decide) (by rw [c4]; rfl) (by decide) dX9_sizeOf_1 ?_
    refine V_sipush hC 536 dX9_sizeOf_55 (by decide) ?_
    exact V_iret hC hr ⟨536, rfl, rfl, hw⟩ dX9_sizeOf_58
  by_cases c5 : p1 = 4
  · have hw := hw.2.2.2.2.1 c5
    refine V_tableIn hC 59 (by rw [c5]; decide) (by rw [c5]; decide) (by rw [c5]; rfl) (by decide) dX9_sizeOf_1 ?_
    refine V_sipush hC 1024 dX9_sizeOf_59 (by decide) ?_
    exact V_iret hC hr ⟨1024, rfl, rfl, hw⟩ dX9_sizeOf_62
  by_cases c6 : p1 = 5
  · have hw := hw.2.2.2.2.2.1 c6
    refine V_tableIn hC 63 (by rw [c6]; decide) (by rw [c6]; decide) (by rw [c6]; rfl) (by decide) dX9_sizeOf_1 ?_
    refine V_sipush hC 1360 dX9_sizeOf_63 (by decide) ?_
    exact V_iret hC hr ⟨1360, rfl, rfl, hw⟩ dX9_sizeOf_66
  by_cases c7 : p1 = 6
  · have hw := hw.2.2.2.2.2.2.1 c7
    refine V_tableIn hC 67 (by rw [c7]; decide) (by rw [c7]; decide) (by rw [c7]; rfl) (by decide) dX9_sizeOf_1 ?_
    refine V_sipush hC 1440 dX9_sizeOf_67 (by decide) ?_
    exact V_iret hC hr ⟨1440, rfl, rfl, hw⟩ dX9_sizeOf_70
  have hw := hw.2.2.2.2.2.2.2 ⟨c1, c2, c3, c4, c5, c6, c7⟩
  refine V_tableOut hC 71 (by have e0 := lv_neT c1 (a := 0) (by decide); have e1 := lv_neT c2 (a := 1) (by decide); have e2 := lv_neT c3 (a := 2) (by decide); have e3 := lv_neT c4 (a := 3) (by decide); have e4 := lv_neT c5 (a := 4) (by decide); have e5 := lv_neT c6 (a := 5) (by decide); have e6 := lv_neT c7 (a := 6) (by decide); omega) (by decide) dX9_sizeOf_1 ?_
  refine V_sipush hC 1460 dX9_sizeOf_71 (by decide) ?_
  exact V_iret hC hr ⟨1460, rfl, rfl, hw⟩ dX9_sizeOf_74
abbrev po_X9_indexOf (E : EN) (K : Int32 → Prop) : Option Value → va_W → Prop := fun v ws' => ∃ (r0 : Int32), v = some (.int r0) ∧ ws' = [] ∧ K r0
def wpl_X9_indexOf_3 (K : Int32 → Prop) : Nat → Int32 → Int32 → Prop
  | 0, _, _ => False
  | n9 + 1, x0, x1 => (wp_X9_sizeOf x1 (fun (r1 : Int32) => ((r1 ≤ x0 → K x1) ∧ (¬ (r1 ≤ x0) → wpl_X9_indexOf_3 K n9 x0 (x1 + (-1))))))
set_option maxRecDepth 100000 in
set_option maxHeartbeats 4000000 in
theorem bl_X9_indexOf_3 {p : Program} {l : Launch} {e : Env} {s : State} {m : MethodId} {args : Array Value} {below : List Frame} {meth : Method} {c : Code} {E : EN} {A : Nat → Prop} (hC : Cx p s m args meth c E A cX9_indexOf 2 "CookieServerModel") (hr : meth.sig.returnType = some .int) (K : Int32 → Prop) : ∀ (n8 : Nat) (x0 : Int32) (x1 : Int32), wpl_X9_indexOf_3 K n8 x0 x1 → V p l e { frames := 1, cells := 0, slots := 0, locals := 20 } s m args below meth c E A 2 0 0 (MQ below (QP E (po_X9_indexOf E K) A) args s 0 0 A) 3 [(0, .int x0), (1, .int x1)] [] [] := by
  intro n8
  induction n8 with
  | zero => intro x0 x1 hw; rw [wpl_X9_indexOf_3] at hw; exact hw.elim
  | succ n9 ih =>
    intro x0 x1 hw
    rw [wpl_X9_indexOf_3] at hw
    refine V_iload_n hC 1 rfl rfl dX9_indexOf_3 ?_
    refine V_callS hC (wr := []) 1 [.int x1] [] (ct_X9_sizeOf l E x1 _ hw) wd_691 wd_40 wd_689 wd_690 (by decide +kernel) rfl ⟨Nat.le_of_ble_eq_true rfl, Nat.le_of_ble_eq_true rfl⟩ [] [] rfl rfl rfl rfl (by decide) rfl (Nat.le_of_ble_eq_true rfl) ⟨Nat.le_of_ble_eq_true rfl, Nat.le_of_ble_eq_true rfl⟩ dX9_indexOf_4 (fun v ws' hp => ?_)
    obtain ⟨r1, rfl, rfl, hw⟩ := hp
    refine V_cast [(0, .int x0), (1, .int x1)] [.int r1] [] [0, 1] [] rfl rfl rfl rfl ?_
    refine V_iload_n hC 0 rfl rfl dX9_indexOf_7 ?_
    refine V_icmp_le hC 17 (by decide) dX9_indexOf_8 (fun c2 => ?_) (fun c2 => ?_)
    · have hw := hw.1 c2
      refine V_iload_n hC 1 rfl rfl dX9_indexOf_17 ?_
      exact V_iret hC hr ⟨x1, rfl, rfl, hw⟩ dX9_indexOf_18
    · have hw := hw.2 c2
      refine V_iinc hC (x1 + (-1)) 1 [(1, .int (x1 + (-1))), (0, .int x0)] rfl (congrArg (fun z => x1 + z) (by decide : Int32.ofInt (-1) = (-1 : Int32))) (by decide) rfl dX9_indexOf_11 ?_
      refine V_goto hC 3 (by decide) dX9_indexOf_14 ?_
      refine V_cast [(0, .int x0), (1, .int (x1 + (-1)))] [] [] [1, 0] [] rfl rfl rfl rfl ?_
      exact ih x0 (x1 + (-1)) hw
def wp_X9_indexOf (p1 : Int32) (K : Int32 → Prop) : Prop := (∃ n8 : Nat, wpl_X9_indexOf_3 K n8 p1 7)
set_option maxRecDepth 100000 in
set_option maxHeartbeats 4000000 in
theorem ct_X9_indexOf (l : Launch) (E : EN) (p1 : Int32) (K : Int32 → Prop) (hw : wp_X9_indexOf p1 K) : Con l yX9_indexOf cX9_indexOf 2 (some .int) { frames := 1, cells := 0, slots := 0, locals := 20 } E [.int p1] [] (po_X9_indexOf E K) := by
  refine Con.mk (by decide +kernel) (Nat.le_of_ble_eq_true rfl) ?_
  intro p e s m below meth c A hC hr hin
  have hC : Cx p s m _ meth c E A cX9_indexOf 2 "CookieServerModel" := hC
  rw [wp_X9_indexOf] at hw
  refine V_cast [(0, .int p1)] [] [] [0] [] rfl rfl rfl rfl ?_
  refine V_bipush hC 7 dX9_indexOf_0 (by decide) ?_
  refine V_istore_n hC [(1, .int 7), (0, .int p1)] rfl (by decide) rfl dX9_indexOf_2 ?_
  refine V_cast [(0, .int p1), (1, .int 7)] [] [] [1, 0] [] rfl rfl rfl rfl ?_
  obtain ⟨n8, hw⟩ := hw
  exact bl_X9_indexOf_3 hC hr K n8 p1 7 hw
abbrev po_X9_sizeAt (E : EN) (h0 : Nat) (h1 : Nat) (h2 : Nat) (h3 : Nat) (a_now : Nat → Int32) (a_past : Nat → Int32) (n_saved : Int32) (a_errors : Nat → Int32) (n_hash : Int64) (K : Int32 → Prop) : Option Value → va_W → Prop := fun v ws' => ∃ (r0 : Int32), v = some (.int r0) ∧ ws' = [(h0, .inr (8, [.ref h1, .ref h2, .int n_saved, .ref h3, .long n_hash])), (h1, .inl (E.2.1, 404, .inl a_now)), (h2, .inl (E.2.1, 1212, .inl a_past)), (h3, .inl (E.2.1, 9, .inl a_errors))] ∧ K r0
def wp_X9_sizeAt (a_now : Nat → Int32) (a_past : Nat → Int32) (n_saved : Int32) (a_errors : Nat → Int32) (n_hash : Int64) (p1 : Int32) (p2 : Int32) (K : Int32 → Prop) : Prop := K ((40 + (8 * p1)) + p2)
set_option maxRecDepth 100000 in
set_option maxHeartbeats 4000000 in
theorem ct_X9_sizeAt (l : Launch) (E : EN) (h0 : Nat) (h1 : Nat) (h2 : Nat) (h3 : Nat) (a_now : Nat → Int32) (a_past : Nat → Int32) (n_saved : Int32) (a_errors : Nat → Int32) (n_hash : Int64) (p1 : Int32) (p2 : Int32) (K : Int32 → Prop) (hw : wp_X9_sizeAt a_now a_past n_saved a_errors n_hash p1 p2 K) : Con l yX9_sizeAt cX9_sizeAt 3 (some .int) { frames := 0, cells := 0, slots := 0, locals := 0 } E [.ref h0, .int p1, .int p2] [(h0, .inr (8, [.ref h1, .ref h2, .int n_saved, .ref h3, .long n_hash])), (h1, .inl (E.2.1, 404, .inl a_now)), (h2, .inl (E.2.1, 1212, .inl a_past)), (h3, .inl (E.2.1, 9, .inl a_errors))] (po_X9_sizeAt E h0 h1 h2 h3 a_now a_past n_saved a_errors n_hash K) := by
  refine Con.mk (by decide +kernel) (Nat.le_of_ble_eq_true rfl) ?_
  intro p e s m below meth c A hC hr hin
  have hC : Cx p s m _ meth c E A cX9_sizeAt 3 "CookieServerModel" := hC
  rw [wp_X9_sizeAt] at hw
  refine V_cast [(0, .ref h0), (1, .int p1), (2, .int p2)] [] [(h0, .inr (8, [.ref h1, .ref h2, .int n_saved, .ref h3, .long n_hash])), (h1, .inl (E.2.1, 404, .inl a_now)), (h2, .inl (E.2.1, 1212, .inl a_past)), (h3, .inl (E.2.1, 9, .inl a_errors))] [0, 1, 2] [0, 1, 2, 3] rfl rfl rfl rfl ?_
  refine V_bipush hC 40 dX9_sizeAt_0 (by decide) ?_
  refine V_bipush hC 8 dX9_sizeAt_2 (by decide) ?_
  refine V_iload_n hC 1 rfl rfl dX9_sizeAt_4 ?_
  refine V_imul hC dX9_sizeAt_5 ?_
  refine V_iadd hC dX9_sizeAt_6 ?_
  refine V_iload_n hC 2 rfl rfl dX9_sizeAt_7 ?_
  refine V_iadd hC dX9_sizeAt_8 ?_
  exact V_iret hC hr ⟨(40 + (8 * p1)) + p2, rfl, rfl, hw⟩ dX9_sizeAt_9
abbrev po_X9_isConnected (E : EN) (h0 : Nat) (h1 : Nat) (h2 : Nat) (h3 : Nat) (a_now : Nat → Int32) (a_past : Nat → Int32) (n_saved : Int32) (a_errors : Nat → Int32) (n_hash : Int64) (K : Int32 → Prop) : Option Value → va_W → Prop := fun v ws' => ∃ (r0 : Int32), v = some (.int r0) ∧ ws' = [(h0, .inr (8, [.ref h1, .ref h2, .int n_saved, .ref h3, .long n_hash])), (h1, .inl (E.2.1, 404, .inl a_now)), (h2, .inl (E.2.1, 1212, .inl a_past)), (h3, .inl (E.2.1, 9, .inl a_errors))] ∧ K r0
def wp_X9_isConnected (a_now : Nat → Int32) (a_past : Nat → Int32) (n_saved : Int32) (a_errors : Nat → Int32) (n_hash : Int64) (p1 : Int32) (p2 : Int32) (K : Int32 → Prop) : Prop := (wp_X9_sizeAt a_now a_past n_saved a_errors n_hash p1 p2 (fun (r1 : Int32) => (vp_in r1 404 ∧ (((a_now (Int32.toNatClampNeg r1)) ≤ 0 → K 0) ∧ (¬ ((a_now (Int32.toNatClampNeg r1)) ≤ 0) → K 1)))))
set_option maxRecDepth 100000 in
set_option maxHeartbeats 4000000 in
theorem ct_X9_isConnected (l : Launch) (E : EN) (h0 : Nat) (h1 : Nat) (h2 : Nat) (h3 : Nat) (a_now : Nat → Int32) (a_past : Nat → Int32) (n_saved : Int32) (a_errors : Nat → Int32) (n_hash : Int64) (p1 : Int32) (p2 : Int32) (K : Int32 → Prop) (hw : wp_X9_isConnected a_now a_past n_saved a_errors n_hash p1 p2 K) : Con l yX9_isConnected cX9_isConnected 3 (some .boolean) { frames := 1, cells := 0, slots := 0, locals := 22 } E [.ref h0, .int p1, .int p2] [(h0, .inr (8, [.ref h1, .ref h2, .int n_saved, .ref h3, .long n_hash])), (h1, .inl (E.2.1, 404, .inl a_now)), (h2, .inl (E.2.1, 1212, .inl a_past)), (h3, .inl (E.2.1, 9, .inl a_errors))] (po_X9_isConnected E h0 h1 h2 h3 a_now a_past n_saved a_errors n_hash K) := by
  refine Con.mk (by decide +kernel) (Nat.le_of_ble_eq_true rfl) ?_
  intro p e s m below meth c A hC hr hin
  have hC : Cx p s m _ meth c E A cX9_isConnected 3 "CookieServerModel" := hC
  rw [wp_X9_isConnected] at hw
  refine V_cast [(0, .ref h0), (1, .int p1), (2, .int p2)] [] [(h0, .inr (8, [.ref h1, .ref h2, .int n_saved, .ref h3, .long n_hash])), (h1, .inl (E.2.1, 404, .inl a_now)), (h2, .inl (E.2.1, 1212, .inl a_past)), (h3, .inl (E.2.1, 9, .inl a_errors))] [0, 1, 2] [0, 1, 2, 3] rfl rfl rfl rfl ?_
  refine V_aload_n hC 0 rfl rfl dX9_isConnected_0 ?_
  refine V_get hC inX9 rfl 0 (by decide) wd_611 0 rfl rfl dX9_isConnected_1 ?_
  refine V_aload_n hC 0 rfl rfl dX9_isConnected_4 ?_
  refine V_iload_n hC 1 rfl rfl dX9_isConnected_5 ?_
  refine V_iload_n hC 2 rfl rfl dX9_isConnected_6 ?_
  refine V_callV hC (wr := []) 2 [.int p1, .int p2] [.ref h1] (ct_X9_sizeAt l E h0 h1 h2 h3 a_now a_past n_saved a_errors n_hash p1 p2 _ hw) wd_685 wd_40 wd_682 wd_684 wd_19 (by decide +kernel) rfl ⟨Nat.le_of_ble_eq_true rfl, Nat.le_of_ble_eq_true rfl⟩ [0, 1, 2, 3] [] rfl rfl rfl rfl (by decide) rfl rfl rfl (Nat.le_of_ble_eq_true rfl) ⟨Nat.le_of_ble_eq_true rfl, Nat.le_of_ble_eq_true rfl⟩ dX9_isConnected_7 (fun v ws' hp => ?_)
  obtain ⟨r1, rfl, rfl, hw⟩ := hp
  refine V_cast [(0, .ref h0), (1, .int p1), (2, .int p2)] [.int r1, .ref h1] [(h0, .inr (8, [.ref h1, .ref h2, .int n_saved, .ref h3, .long n_hash])), (h1, .inl (E.2.1, 404, .inl a_now)), (h2, .inl (E.2.1, 1212, .inl a_past)), (h3, .inl (E.2.1, 9, .inl a_errors))] [0, 1, 2] [0, 1, 2, 3] rfl rfl rfl rfl ?_
  refine V_iald hC _ rfl 1 rfl hw.1 dX9_isConnected_10 ?_
  have hw := hw.2
  refine V_if_le hC 18 (by decide) dX9_isConnected_11 (fun c2 => ?_) (fun c2 => ?_)
  · have hw := hw.1 c2
    refine V_iconst hC 0 dX9_isConnected_18 (by decide) ?_
    exact V_zret hC hr rfl ⟨0, rfl, rfl, hw⟩ dX9_isConnected_19
  · have hw := hw.2 c2
    refine V_iconst hC 1 dX9_isConnected_14 (by decide) ?_
    refine V_goto hC 19 (by decide) dX9_isConnected_15 ?_
    exact V_zret hC hr rfl ⟨1, rfl, rfl, hw⟩ dX9_isConnected_19
abbrev po_X9_connectionsOf (E : EN) (h0 : Nat) (h1 : Nat) (h2 : Nat) (h3 : Nat) (a_now : Nat → Int32) (a_past : Nat → Int32) (n_saved : Int32) (a_errors : Nat → Int32) (n_hash : Int64) (K : Int32 → Prop) : Option Value → va_W → Prop := fun v ws' => ∃ (r0 : Int32), v = some (.int r0) ∧ ws' = [(h0, .inr (8, [.ref h1, .ref h2, .int n_saved, .ref h3, .long n_hash])), (h1, .inl (E.2.1, 404, .inl a_now)), (h2, .inl (E.2.1, 1212, .inl a_past)), (h3, .inl (E.2.1, 9, .inl a_errors))] ∧ K r0
def wpl_X9_connectionsOf_4 (a_now : Nat → Int32) (a_past : Nat → Int32) (n_saved : Int32) (a_errors : Nat → Int32) (n_hash : Int64) (K : Int32 → Prop) : Nat → Int32 → Int32 → Int32 → Prop
  | 0, _, _, _ => False
  | n9 + 1, x1, x2, x3 => ((8 ≤ x3 → K x2) ∧ (¬ (8 ≤ x3) → (wp_X9_isConnected a_now a_past n_saved a_errors n_hash x1 x3 (fun (r2 : Int32) => ((r2 = 0 → wpl_X9_connectionsOf_4 a_now a_past n_saved a_errors n_hash K n9 x1 (x2 + 0) (x3 + 1)) ∧ (¬ (r2 = 0) → wpl_X9_connectionsOf_4 a_now a_past n_saved a_errors n_hash K n9 x1 (x2 + 1) (x3 + 1)))))))
set_option maxRecDepth 100000 in
set_option maxHeartbeats 4000000 in
theorem bl_X9_connectionsOf_4 {p : Program} {l : Launch} {e : Env} {s : State} {m : MethodId} {args : Array Value} {below : List Frame} {meth : Method} {c : Code} {E : EN} {A : Nat → Prop} (hC : Cx p s m args meth c E A cX9_connectionsOf 4 "CookieServerModel") (hr : meth.sig.returnType = some .int) (h0 : Nat) (h1 : Nat) (h2 : Nat) (h3 : Nat) (a_now : Nat → Int32) (a_past : Nat → Int32) (n_saved : Int32) (a_errors : Nat → Int32) (n_hash : Int64) (K : Int32 → Prop) : ∀ (n8 : Nat) (x1 : Int32) (x2 : Int32) (x3 : Int32), wpl_X9_connectionsOf_4 a_now a_past n_saved a_errors n_hash K n8 x1 x2 x3 → V p l e { frames := 2, cells := 0, slots := 0, locals := 44 } s m args below meth c E A 4 0 0 (MQ below (QP E (po_X9_connectionsOf E h0 h1 h2 h3 a_now a_past n_saved a_errors n_hash K) A) args s 0 0 A) 4 [(0, .ref h0), (1, .int x1), (2, .int x2), (3, .int x3)] [] [(h0, .inr (8, [.ref h1, .ref h2, .int n_saved, .ref h3, .long n_hash])), (h1, .inl (E.2.1, 404, .inl a_now)), (h2, .inl (E.2.1, 1212, .inl a_past)), (h3, .inl (E.2.1, 9, .inl a_errors))] := by
  intro n8
  induction n8 with
  | zero => intro x1 x2 x3 hw; rw [wpl_X9_connectionsOf_4] at hw; exact hw.elim
  | succ n9 ih =>
    intro x1 x2 x3 hw
    rw [wpl_X9_connectionsOf_4] at hw
    refine V_iload_n hC 3 rfl rfl dX9_connectionsOf_4 ?_
    refine V_bipush hC 8 dX9_connectionsOf_5 (by decide) ?_
    refine V_icmp_ge hC 33 (by decide) dX9_connectionsOf_7 (fun c1 => ?_) (fun c1 => ?_)
    · have hw := hw.1 c1
      refine V_iload_n hC 2 rfl rfl dX9_connectionsOf_33 ?_
      exact V_iret hC hr ⟨x2, rfl, rfl, hw⟩ dX9_connectionsOf_34
    · have hw := hw.2 c1
      refine V_iload_n hC 2 rfl rfl dX9_connectionsOf_10 ?_
      refine V_aload_n hC 0 rfl rfl dX9_connectionsOf_11 ?_
      refine V_iload_n hC 1 rfl rfl dX9_connectionsOf_12 ?_
      refine V_iload_n hC 3 rfl rfl dX9_connectionsOf_13 ?_
      refine V_callV hC (wr := []) 2 [.int x1, .int x3] [.int x2] (ct_X9_isConnected l E h0 h1 h2 h3 a_now a_past n_saved a_errors n_hash x1 x3 _ hw) wd_681 wd_40 wd_678 wd_680 wd_18 (by decide +kernel) rfl ⟨Nat.le_of_ble_eq_true rfl, Nat.le_of_ble_eq_true rfl⟩ [0, 1, 2, 3] [] rfl rfl rfl rfl (by decide) rfl rfl rfl (Nat.le_of_ble_eq_true rfl) ⟨Nat.le_of_ble_eq_true rfl, Nat.le_of_ble_eq_true rfl⟩ dX9_connectionsOf_14 (fun v ws' hp => ?_)
      obtain ⟨r2, rfl, rfl, hw⟩ := hp
      refine V_cast [(0, .ref h0), (1, .int x1), (2, .int x2), (3, .int x3)] [.int r2, .int x2] [(h0, .inr (8, [.ref h1, .ref h2, .int n_saved, .ref h3, .long n_hash])), (h1, .inl (E.2.1, 404, .inl a_now)), (h2, .inl (E.2.1, 1212, .inl a_past)), (h3, .inl (E.2.1, 9, .inl a_errors))] [0, 1, 2, 3] [0, 1, 2, 3] rfl rfl rfl rfl ?_
      refine V_if_eq hC 24 (by decide) dX9_connectionsOf_17 (fun c3 => ?_) (fun c3 => ?_)
      · have hw := hw.1 c3
        refine V_iconst hC 0 dX9_connectionsOf_24 (by decide) ?_
        refine V_iadd hC dX9_connectionsOf_25 ?_
        refine V_istore_n hC [(2, .int (x2 + 0)), (0, .ref h0), (1, .int x1), (3, .int x3)] rfl (by decide) rfl dX9_connectionsOf_26 ?_
        refine V_iinc hC (x3 + 1) 3 [(3, .int (x3 + 1)), (2, .int (x2 + 0)), (0, .ref h0), (1, .int x1)] rfl (congrArg (fun z => x3 + z) (by decide : Int32.ofInt (1) = (1 : Int32))) (by decide) rfl dX9_connectionsOf_27 ?_
        refine V_goto hC 4 (by decide) dX9_connectionsOf_30 ?_
        refine V_cast [(0, .ref h0), (1, .int x1), (2, .int (x2 + 0)), (3, .int (x3 + 1))] [] [(h0, .inr (8, [.ref h1, .ref h2, .int n_saved, .ref h3, .long n_hash])), (h1, .inl (E.2.1, 404, .inl a_now)), (h2, .inl (E.2.1, 1212, .inl a_past)), (h3, .inl (E.2.1, 9, .inl a_errors))] [2, 3, 1, 0] [0, 1, 2, 3] rfl rfl rfl rfl ?_
        exact ih x1 (x2 + 0) (x3 + 1) hw
      · have hw := hw.2 c3
        refine V_iconst hC 1 dX9_connectionsOf_20 (by decide) ?_
        refine V_goto hC 25 (by decide) dX9_connectionsOf_21 ?_
        refine V_iadd hC dX9_connectionsOf_25 ?_
        refine V_istore_n hC [(2, .int (x2 + 1)), (0, .ref h0), (1, .int x1), (3, .int x3)] rfl (by decide) rfl dX9_connectionsOf_26 ?_
        refine V_iinc hC (x3 + 1) 3 [(3, .int (x3 + 1)), (2, .int (x2 + 1)), (0, .ref h0), (1, .int x1)] rfl (congrArg (fun z => x3 + z) (by decide : Int32.ofInt (1) = (1 : Int32))) (by decide) rfl dX9_connectionsOf_27 ?_
        refine V_goto hC 4 (by decide) dX9_connectionsOf_30 ?_
        refine V_cast [(0, .ref h0), (1, .int x1), (2, .int (x2 + 1)), (3, .int (x3 + 1))] [] [(h0, .inr (8, [.ref h1, .ref h2, .int n_saved, .ref h3, .long n_hash])), (h1, .inl (E.2.1, 404, .inl a_now)), (h2, .inl (E.2.1, 1212, .inl a_past)), (h3, .inl (E.2.1, 9, .inl a_errors))] [2, 3, 1, 0] [0, 1, 2, 3] rfl rfl rfl rfl ?_
        exact ih x1 (x2 + 1) (x3 + 1) hw
def wp_X9_connectionsOf (a_now : Nat → Int32) (a_past : Nat → Int32) (n_saved : Int32) (a_errors : Nat → Int32) (n_hash : Int64) (p1 : Int32) (K : Int32 → Prop) : Prop := (∃ n8 : Nat, wpl_X9_connectionsOf_4 a_now a_past n_saved a_errors n_hash K n8 p1 0 0)
set_option maxRecDepth 100000 in
set_option maxHeartbeats 4000000 in
theorem ct_X9_connectionsOf (l : Launch) (E : EN) (h0 : Nat) (h1 : Nat) (h2 : Nat) (h3 : Nat) (a_now : Nat → Int32) (a_past : Nat → Int32) (n_saved : Int32) (a_errors : Nat → Int32) (n_hash : Int64) (p1 : Int32) (K : Int32 → Prop) (hw : wp_X9_connectionsOf a_now a_past n_saved a_errors n_hash p1 K) : Con l yX9_connectionsOf cX9_connectionsOf 4 (some .int) { frames := 2, cells := 0, slots := 0, locals := 44 } E [.ref h0, .int p1] [(h0, .inr (8, [.ref h1, .ref h2, .int n_saved, .ref h3, .long n_hash])), (h1, .inl (E.2.1, 404, .inl a_now)), (h2, .inl (E.2.1, 1212, .inl a_past)), (h3, .inl (E.2.1, 9, .inl a_errors))] (po_X9_connectionsOf E h0 h1 h2 h3 a_now a_past n_saved a_errors n_hash K) := by
  refine Con.mk (by decide +kernel) (Nat.le_of_ble_eq_true rfl) ?_
  intro p e s m below meth c A hC hr hin
  have hC : Cx p s m _ meth c E A cX9_connectionsOf 4 "CookieServerModel" := hC
  rw [wp_X9_connectionsOf] at hw
  refine V_cast [(0, .ref h0), (1, .int p1)] [] [(h0, .inr (8, [.ref h1, .ref h2, .int n_saved, .ref h3, .long n_hash])), (h1, .inl (E.2.1, 404, .inl a_now)), (h2, .inl (E.2.1, 1212, .inl a_past)), (h3, .inl (E.2.1, 9, .inl a_errors))] [0, 1] [0, 1, 2, 3] rfl rfl rfl rfl ?_
  refine V_iconst hC 0 dX9_connectionsOf_0 (by decide) ?_
  refine V_istore_n hC [(2, .int 0), (0, .ref h0), (1, .int p1)] rfl (by decide) rfl dX9_connectionsOf_1 ?_
  refine V_iconst hC 0 dX9_connectionsOf_2 (by decide) ?_
  refine V_istore_n hC [(3, .int 0), (2, .int 0), (0, .ref h0), (1, .int p1)] rfl (by decide) rfl dX9_connectionsOf_3 ?_
  refine V_cast [(0, .ref h0), (1, .int p1), (2, .int 0), (3, .int 0)] [] [(h0, .inr (8, [.ref h1, .ref h2, .int n_saved, .ref h3, .long n_hash])), (h1, .inl (E.2.1, 404, .inl a_now)), (h2, .inl (E.2.1, 1212, .inl a_past)), (h3, .inl (E.2.1, 9, .inl a_errors))] [2, 3, 1, 0] [0, 1, 2, 3] rfl rfl rfl rfl ?_
  obtain ⟨n8, hw⟩ := hw
  exact bl_X9_connectionsOf_4 hC hr h0 h1 h2 h3 a_now a_past n_saved a_errors n_hash K n8 p1 0 0 hw
abbrev po_X9_entryOf (E : EN) (h0 : Nat) (h1 : Nat) (h2 : Nat) (h3 : Nat) (a_now : Nat → Int32) (a_past : Nat → Int32) (n_saved : Int32) (a_errors : Nat → Int32) (n_hash : Int64) (K : Int32 → Prop) : Option Value → va_W → Prop := fun v ws' => ∃ (r0 : Int32), v = some (.int r0) ∧ ws' = [(h0, .inr (8, [.ref h1, .ref h2, .int n_saved, .ref h3, .long n_hash])), (h1, .inl (E.2.1, 404, .inl a_now)), (h2, .inl (E.2.1, 1212, .inl a_past)), (h3, .inl (E.2.1, 9, .inl a_errors))] ∧ K r0
def wpl_X9_entryOf_5 (a_now : Nat → Int32) (a_past : Nat → Int32) (n_saved : Int32) (a_errors : Nat → Int32) (n_hash : Int64) (K : Int32 → Prop) : Nat → Int32 → Int32 → Int32 → Int32 → Prop
  | 0, _, _, _, _ => False
  | n9 + 1, x1, x2, x3, x4 => (((a_now 3) ≤ x4 → K x3) ∧ (¬ ((a_now 3) ≤ x4) → (vp_in (24 + (4 * x4)) 404 ∧ ((¬ (a_now (Int32.toNatClampNeg (24 + (4 * x4)))) = x1 → wpl_X9_entryOf_5 a_now a_past n_saved a_errors n_hash K n9 x1 x2 x3 (x4 + 1)) ∧ ((a_now (Int32.toNatClampNeg (24 + (4 * x4)))) = x1 → (vp_in ((24 + (4 * x4)) + 1) 404 ∧ ((¬ (a_now (Int32.toNatClampNeg ((24 + (4 * x4)) + 1))) = x2 → wpl_X9_entryOf_5 a_now a_past n_saved a_errors n_hash K n9 x1 x2 x3 (x4 + 1)) ∧ ((a_now (Int32.toNatClampNeg ((24 + (4 * x4)) + 1))) = x2 → wpl_X9_entryOf_5 a_now a_past n_saved a_errors n_hash K n9 x1 x2 x4 (x4 + 1)))))))))
set_option maxRecDepth 100000 in
set_option maxHeartbeats 4000000 in
theorem bl_X9_entryOf_5 {p : Program} {l : Launch} {e : Env} {s : State} {m : MethodId} {args : Array Value} {below : List Frame} {meth : Method} {c : Code} {E : EN} {A : Nat → Prop} (hC : Cx p s m args meth c E A cX9_entryOf 5 "CookieServerModel") (hr : meth.sig.returnType = some .int) (h0 : Nat) (h1 : Nat) (h2 : Nat) (h3 : Nat) (a_now : Nat → Int32) (a_past : Nat → Int32) (n_saved : Int32) (a_errors : Nat → Int32) (n_hash : Int64) (K : Int32 → Prop) : ∀ (n8 : Nat) (x1 : Int32) (x2 : Int32) (x3 : Int32) (x4 : Int32), wpl_X9_entryOf_5 a_now a_past n_saved a_errors n_hash K n8 x1 x2 x3 x4 → V p l e { frames := 0, cells := 0, slots := 0, locals := 0 } s m args below meth c E A 5 0 0 (MQ below (QP E (po_X9_entryOf E h0 h1 h2 h3 a_now a_past n_saved a_errors n_hash K) A) args s 0 0 A) 5 [(0, .ref h0), (1, .int x1), (2, .int x2), (3, .int x3), (4, .int x4)] [] [(h0, .inr (8, [.ref h1, .ref h2, .int n_saved, .ref h3, .long n_hash])), (h1, .inl (E.2.1, 404, .inl a_now)), (h2, .inl (E.2.1, 1212, .inl a_past)), (h3, .inl (E.2.1, 9, .inl a_errors))] := by
  intro n8
  induction n8 with
  | zero => intro x1 x2 x3 x4 hw; rw [wpl_X9_entryOf_5] at hw; exact hw.elim
  | succ n9 ih =>
    intro x1 x2 x3 x4 hw
    rw [wpl_X9_entryOf_5] at hw
    refine V_iload hC 4 rfl dX9_entryOf_5 ?_
    refine V_aload_n hC 0 rfl rfl dX9_entryOf_7 ?_
    refine V_get hC inX9 rfl 0 (by decide) wd_611 0 rfl rfl dX9_entryOf_8 ?_
    refine V_iconst hC 3 dX9_entryOf_11 (by decide) ?_
    refine V_iald hC 3 (by decide) 1 rfl (by unfold vp_in; decide) dX9_entryOf_12 ?_
    refine V_icmp_ge hC 63 (by decide) dX9_entryOf_13 (fun c1 => ?_) (fun c1 => ?_)
    · have hw := hw.1 c1
      refine V_iload_n hC 3 rfl rfl dX9_entryOf_63 ?_
      exact V_iret hC hr ⟨x3, rfl, rfl, hw⟩ dX9_entryOf_64
    · have hw := hw.2 c1
      refine V_aload_n hC 0 rfl rfl dX9_entryOf_16 ?_
      refine V_get hC inX9 rfl 0 (by decide) wd_611 0 rfl rfl dX9_entryOf_17 ?_
      refine V_bipush hC 24 dX9_entryOf_20 (by decide) ?_
      refine V_iconst hC 4 dX9_entryOf_22 (by decide) ?_
      refine V_iload hC 4 rfl dX9_entryOf_23 ?_
      refine V_imul hC dX9_entryOf_25 ?_
      refine V_iadd hC dX9_entryOf_26 ?_
      refine V_iald hC _ rfl 1 rfl hw.1 dX9_entryOf_27 ?_
      have hw := hw.2
      refine V_iload_n hC 1 rfl rfl dX9_entryOf_28 ?_
      refine V_icmp_ne hC 55 (by decide) dX9_entryOf_29 (fun c2 => ?_) (fun c2 => ?_)
      · have hw := hw.1 c2
        refine V_iload_n hC 3 rfl rfl dX9_entryOf_55 ?_
        refine V_istore_n hC [(3, .int x3), (0, .ref h0), (1, .int x1), (2, .int x2), (4, .int x4)] rfl (by decide) rfl dX9_entryOf_56 ?_
        refine V_iinc hC (x4 + 1) 4 [(4, .int (x4 + 1)), (3, .int x3), (0, .ref h0), (1, .int x1), (2, .int x2)] rfl (congrArg (fun z => x4 + z) (by decide : Int32.ofInt (1) = (1 : Int32))) (by decide) rfl dX9_entryOf_57 ?_
        refine V_goto hC 5 (by decide) dX9_entryOf_60 ?_
        refine V_cast [(0, .ref h0), (1, .int x1), (2, .int x2), (3, .int x3), (4, .int (x4 + 1))] [] [(h0, .inr (8, [.ref h1, .ref h2, .int n_saved, .ref h3, .long n_hash])), (h1, .inl (E.2.1, 404, .inl a_now)), (h2, .inl (E.2.1, 1212, .inl a_past)), (h3, .inl (E.2.1, 9, .inl a_errors))] [2, 3, 4, 1, 0] [0, 1, 2, 3] rfl rfl rfl rfl ?_
        exact ih x1 x2 x3 (x4 + 1) hw
      · have hw := hw.2 c2
        refine V_aload_n hC 0 rfl rfl dX9_entryOf_32 ?_
        refine V_get hC inX9 rfl 0 (by decide) wd_611 0 rfl rfl dX9_entryOf_33 ?_
        refine V_bipush hC 24 dX9_entryOf_36 (by decide) ?_
        refine V_iconst hC 4 dX9_entryOf_38 (by decide) ?_
        refine V_iload hC 4 rfl dX9_entryOf_39 ?_
        refine V_imul hC dX9_entryOf_41 ?_
        refine V_iadd hC dX9_entryOf_42 ?_
        refine V_iconst hC 1 dX9_entryOf_43 (by decide) ?_
        refine V_iadd hC dX9_entryOf_44 ?_
        refine V_iald hC _ rfl 1 rfl hw.1 dX9_entryOf_45 ?_
        have hw := hw.2
        refine V_iload_n hC 2 rfl rfl dX9_entryOf_46 ?_
        refine V_icmp_ne hC 55 (by decide) dX9_entryOf_47 (fun c3 => ?_) (fun c3 => ?_)
        · have hw := hw.1 c3
          refine V_iload_n hC 3 rfl rfl dX9_entryOf_55 ?_
          refine V_istore_n hC [(3, .int x3), (0, .ref h0), (1, .int x1), (2, .int x2), (4, .int x4)] rfl (by decide) rfl dX9_entryOf_56 ?_
          refine V_iinc hC (x4 + 1) 4 [(4, .int (x4 + 1)), (3, .int x3), (0, .ref h0), (1, .int x1), (2, .int x2)] rfl (congrArg (fun z => x4 + z) (by decide : Int32.ofInt (1) = (1 : Int32))) (by decide) rfl dX9_entryOf_57 ?_
          refine V_goto hC 5 (by decide) dX9_entryOf_60 ?_
          refine V_cast [(0, .ref h0), (1, .int x1), (2, .int x2), (3, .int x3), (4, .int (x4 + 1))] [] [(h0, .inr (8, [.ref h1, .ref h2, .int n_saved, .ref h3, .long n_hash])), (h1, .inl (E.2.1, 404, .inl a_now)), (h2, .inl (E.2.1, 1212, .inl a_past)), (h3, .inl (E.2.1, 9, .inl a_errors))] [2, 3, 4, 1, 0] [0, 1, 2, 3] rfl rfl rfl rfl ?_
          exact ih x1 x2 x3 (x4 + 1) hw
        · have hw := hw.2 c3
          refine V_iload hC 4 rfl dX9_entryOf_50 ?_
          refine V_goto hC 56 (by decide) dX9_entryOf_52 ?_
          refine V_istore_n hC [(3, .int x4), (0, .ref h0), (1, .int x1), (2, .int x2), (4, .int x4)] rfl (by decide) rfl dX9_entryOf_56 ?_
          refine V_iinc hC (x4 + 1) 4 [(4, .int (x4 + 1)), (3, .int x4), (0, .ref h0), (1, .int x1), (2, .int x2)] rfl (congrArg (fun z => x4 + z) (by decide : Int32.ofInt (1) = (1 : Int32))) (by decide) rfl dX9_entryOf_57 ?_
          refine V_goto hC 5 (by decide) dX9_entryOf_60 ?_
          refine V_cast [(0, .ref h0), (1, .int x1), (2, .int x2), (3, .int x4), (4, .int (x4 + 1))] [] [(h0, .inr (8, [.ref h1, .ref h2, .int n_saved, .ref h3, .long n_hash])), (h1, .inl (E.2.1, 404, .inl a_now)), (h2, .inl (E.2.1, 1212, .inl a_past)), (h3, .inl (E.2.1, 9, .inl a_errors))] [2, 3, 4, 1, 0] [0, 1, 2, 3] rfl rfl rfl rfl ?_
          exact ih x1 x2 x4 (x4 + 1) hw
def wp_X9_entryOf (a_now : Nat → Int32) (a_past : Nat → Int32) (n_saved : Int32) (a_errors : Nat → Int32) (n_hash : Int64) (p1 : Int32) (p2 : Int32) (K : Int32 → Prop) : Prop := (∃ n8 : Nat, wpl_X9_entryOf_5 a_now a_past n_saved a_errors n_hash K n8 p1 p2 (-1) 0)
set_option maxRecDepth 100000 in
set_option maxHeartbeats 4000000 in
theorem ct_X9_entryOf (l : Launch) (E : EN) (h0 : Nat) (h1 : Nat) (h2 : Nat) (h3 : Nat) (a_now : Nat → Int32) (a_past : Nat → Int32) (n_saved : Int32) (a_errors : Nat → Int32) (n_hash : Int64) (p1 : Int32) (p2 : Int32) (K : Int32 → Prop) (hw : wp_X9_entryOf a_now a_past n_saved a_errors n_hash p1 p2 K) : Con l yX9_entryOf cX9_entryOf 5 (some .int) { frames := 0, cells := 0, slots := 0, locals := 0 } E [.ref h0, .int p1, .int p2] [(h0, .inr (8, [.ref h1, .ref h2, .int n_saved, .ref h3, .long n_hash])), (h1, .inl (E.2.1, 404, .inl a_now)), (h2, .inl (E.2.1, 1212, .inl a_past)), (h3, .inl (E.2.1, 9, .inl a_errors))] (po_X9_entryOf E h0 h1 h2 h3 a_now a_past n_saved a_errors n_hash K) := by
  refine Con.mk (by decide +kernel) (Nat.le_of_ble_eq_true rfl) ?_
  intro p e s m below meth c A hC hr hin
  have hC : Cx p s m _ meth c E A cX9_entryOf 5 "CookieServerModel" := hC
  rw [wp_X9_entryOf] at hw
  refine V_cast [(0, .ref h0), (1, .int p1), (2, .int p2)] [] [(h0, .inr (8, [.ref h1, .ref h2, .int n_saved, .ref h3, .long n_hash])), (h1, .inl (E.2.1, 404, .inl a_now)), (h2, .inl (E.2.1, 1212, .inl a_past)), (h3, .inl (E.2.1, 9, .inl a_errors))] [0, 1, 2] [0, 1, 2, 3] rfl rfl rfl rfl ?_
  refine V_iconst hC (-1) dX9_entryOf_0 (by decide) ?_
  refine V_istore_n hC [(3, .int (-1)), (0, .ref h0), (1, .int p1), (2, .int p2)] rfl (by decide) rfl dX9_entryOf_1 ?_
  refine V_iconst hC 0 dX9_entryOf_2 (by decide) ?_
  refine V_istore hC [(4, .int 0), (3, .int (-1)), (0, .ref h0), (1, .int p1), (2, .int p2)] (by decide) rfl dX9_entryOf_3 ?_
  refine V_cast [(0, .ref h0), (1, .int p1), (2, .int p2), (3, .int (-1)), (4, .int 0)] [] [(h0, .inr (8, [.ref h1, .ref h2, .int n_saved, .ref h3, .long n_hash])), (h1, .inl (E.2.1, 404, .inl a_now)), (h2, .inl (E.2.1, 1212, .inl a_past)), (h3, .inl (E.2.1, 9, .inl a_errors))] [2, 3, 4, 1, 0] [0, 1, 2, 3] rfl rfl rfl rfl ?_
  obtain ⟨n8, hw⟩ := hw
  exact bl_X9_entryOf_5 hC hr h0 h1 h2 h3 a_now a_past n_saved a_errors n_hash K n8 p1 p2 (-1) 0 hw
