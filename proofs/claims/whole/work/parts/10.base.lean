abbrev po_X8_isWithin (E : EN) (K : Int32 → Prop) : Option Value → va_W → Prop := fun v ws' => ∃ (r0 : Int32), v = some (.int r0) ∧ ws' = [] ∧ K r0
def wp_X8_isWithin (p1 : Int32) (p2 : Int32) (p3 : Int32) (K : Int32 → Prop) : Prop := ((p1 < p2 → K 0) ∧ (¬ (p1 < p2) → ((p3 < p1 → K 0) ∧ (¬ (p3 < p1) → K 1))))
set_option maxRecDepth 100000 in
set_option maxHeartbeats 4000000 in
theorem ct_X8_isWithin (l : Launch) (E : EN) (p1 : Int32) (p2 : Int32) (p3 : Int32) (K : Int32 → Prop) (hw : wp_X8_isWithin p1 p2 p3 K) : Con l yX8_isWithin cX8_isWithin 3 (some .boolean) { frames := 0, cells := 0, slots := 0, locals := 0 } E [.int p1, .int p2, .int p3] [] (po_X8_isWithin E K) := by
  refine Con.mk (by decide +kernel) (Nat.le_of_ble_eq_true rfl) ?_
  intro p e s m below meth c A hC hr hin
  have hC : Cx p s m _ meth c E A cX8_isWithin 3 "CookieServer" := hC
  rw [wp_X8_isWithin] at hw
  refine V_cast [(0, .int p1), (1, .int p2), (2, .int p3)] [] [] [0, 1, 2] [] rfl rfl rfl rfl ?_
  refine V_iload_n hC 0 rfl rfl dX8_isWithin_0 ?_
  refine V_iload_n hC 1 rfl rfl dX8_isWithin_1 ?_
  refine V_icmp_lt hC 14 (by decide) dX8_isWithin_2 (fun c1 => ?_) (fun c1 => ?_)
  · have hw := hw.1 c1
    refine V_iconst hC 0 dX8_isWithin_14 (by decide) ?_
    exact V_zret hC hr rfl ⟨0, rfl, rfl, hw⟩ dX8_isWithin_15
  · have hw := hw.2 c1
    refine V_iload_n hC 0 rfl rfl dX8_isWithin_5 ?_
    refine V_iload_n hC 2 rfl rfl dX8_isWithin_6 ?_
    refine V_icmp_gt hC 14 (by decide) dX8_isWithin_7 (fun c2 => ?_) (fun c2 => ?_)
    · have hw := hw.1 c2
      refine V_iconst hC 0 dX8_isWithin_14 (by decide) ?_
      exact V_zret hC hr rfl ⟨0, rfl, rfl, hw⟩ dX8_isWithin_15
    · have hw := hw.2 c2
      refine V_iconst hC 1 dX8_isWithin_10 (by decide) ?_
      refine V_goto hC 15 (by decide) dX8_isWithin_11 ?_
      exact V_zret hC hr rfl ⟨1, rfl, rfl, hw⟩ dX8_isWithin_15
abbrev po_X8_isClient (E : EN) (K : Int32 → Prop) : Option Value → va_W → Prop := fun v ws' => ∃ (r0 : Int32), v = some (.int r0) ∧ ws' = [] ∧ K r0
def wp_X8_isClient (p1 : Int32) (K : Int32 → Prop) : Prop := (wp_X8_isWithin p1 0 15 (fun (r1 : Int32) => (narrow .boolean (.int r1) = .int r1 ∧ K r1)))
set_option maxRecDepth 100000 in
set_option maxHeartbeats 4000000 in
theorem ct_X8_isClient (l : Launch) (E : EN) (p1 : Int32) (K : Int32 → Prop) (hw : wp_X8_isClient p1 K) : Con l yX8_isClient cX8_isClient 1 (some .boolean) { frames := 1, cells := 0, slots := 0, locals := 22 } E [.int p1] [] (po_X8_isClient E K) := by
  refine Con.mk (by decide +kernel) (Nat.le_of_ble_eq_true rfl) ?_
  intro p e s m below meth c A hC hr hin
  have hC : Cx p s m _ meth c E A cX8_isClient 1 "CookieServer" := hC
  rw [wp_X8_isClient] at hw
  refine V_cast [(0, .int p1)] [] [] [0] [] rfl rfl rfl rfl ?_
  refine V_iload_n hC 0 rfl rfl dX8_isClient_0 ?_
  refine V_iconst hC 0 dX8_isClient_1 (by decide) ?_
  refine V_bipush hC 15 dX8_isClient_2 (by decide) ?_
  refine V_callS hC (wr := []) 3 [.int p1, .int 0, .int 15] [] (ct_X8_isWithin l E p1 0 15 _ hw) wd_221 wd_32 wd_219 wd_220 (by decide +kernel) rfl ⟨Nat.le_of_ble_eq_true rfl, Nat.le_of_ble_eq_true rfl⟩ [] [] rfl rfl rfl rfl (by decide) rfl (Nat.le_of_ble_eq_true rfl) ⟨Nat.le_of_ble_eq_true rfl, Nat.le_of_ble_eq_true rfl⟩ dX8_isClient_4 (fun v ws' hp => ?_)
  obtain ⟨r1, rfl, rfl, hw⟩ := hp
  refine V_cast [(0, .int p1)] [.int r1] [] [0] [] rfl rfl rfl rfl ?_
  exact V_zret hC hr hw.1 ⟨r1, rfl, rfl, hw.2⟩ dX8_isClient_7
abbrev po_X8_isPlace (E : EN) (K : Int32 → Prop) : Option Value → va_W → Prop := fun v ws' => ∃ (r0 : Int32), v = some (.int r0) ∧ ws' = [] ∧ K r0
def wp_X8_isPlace (p1 : Int32) (p2 : Int32) (K : Int32 → Prop) : Prop := (wp_X8_isClient p1 (fun (r1 : Int32) => ((r1 = 0 → K 0) ∧ (¬ (r1 = 0) → (wp_X8_isWithin p2 0 7 (fun (r3 : Int32) => ((r3 = 0 → K 0) ∧ (¬ (r3 = 0) → K 1))))))))
set_option maxRecDepth 100000 in
set_option maxHeartbeats 4000000 in
theorem ct_X8_isPlace (l : Launch) (E : EN) (p1 : Int32) (p2 : Int32) (K : Int32 → Prop) (hw : wp_X8_isPlace p1 p2 K) : Con l yX8_isPlace cX8_isPlace 2 (some .boolean) { frames := 2, cells := 0, slots := 0, locals := 42 } E [.int p1, .int p2] [] (po_X8_isPlace E K) := by
  refine Con.mk (by decide +kernel) (Nat.le_of_ble_eq_true rfl) ?_
  intro p e s m below meth c A hC hr hin
  have hC : Cx p s m _ meth c E A cX8_isPlace 2 "CookieServer" := hC
  rw [wp_X8_isPlace] at hw
  refine V_cast [(0, .int p1), (1, .int p2)] [] [] [0, 1] [] rfl rfl rfl rfl ?_
  refine V_iload_n hC 0 rfl rfl dX8_isPlace_0 ?_
  refine V_callS hC (wr := []) 1 [.int p1] [] (ct_X8_isClient l E p1 _ hw) wd_317 wd_32 wd_315 wd_316 (by decide +kernel) rfl ⟨Nat.le_of_ble_eq_true rfl, Nat.le_of_ble_eq_true rfl⟩ [] [] rfl rfl rfl rfl (by decide) rfl (Nat.le_of_ble_eq_true rfl) ⟨Nat.le_of_ble_eq_true rfl, Nat.le_of_ble_eq_true rfl⟩ dX8_isPlace_1 (fun v ws' hp => ?_)
  obtain ⟨r1, rfl, rfl, hw⟩ := hp
  refine V_cast [(0, .int p1), (1, .int p2)] [.int r1] [] [0, 1] [] rfl rfl rfl rfl ?_
  refine V_if_eq hC 21 (by decide) dX8_isPlace_4 (fun c2 => ?_) (fun c2 => ?_)
  · have hw := hw.1 c2
    refine V_iconst hC 0 dX8_isPlace_21 (by decide) ?_
    exact V_zret hC hr rfl ⟨0, rfl, rfl, hw⟩ dX8_isPlace_22
  · have hw := hw.2 c2
    refine V_iload_n hC 1 rfl rfl dX8_isPlace_7 ?_
    refine V_iconst hC 0 dX8_isPlace_8 (by decide) ?_
    refine V_bipush hC 7 dX8_isPlace_9 (by decide) ?_
    refine V_callS hC (wr := []) 3 [.int p2, .int 0, .int 7] [] (ct_X8_isWithin l E p2 0 7 _ hw) wd_221 wd_32 wd_219 wd_220 (by decide +kernel) rfl ⟨Nat.le_of_ble_eq_true rfl, Nat.le_of_ble_eq_true rfl⟩ [] [] rfl rfl rfl rfl (by decide) rfl (Nat.le_of_ble_eq_true rfl) ⟨Nat.le_of_ble_eq_true rfl, Nat.le_of_ble_eq_true rfl⟩ dX8_isPlace_11 (fun v ws' hp => ?_)
    obtain ⟨r3, rfl, rfl, hw⟩ := hp
    refine V_cast [(0, .int p1), (1, .int p2)] [.int r3] [] [0, 1] [] rfl rfl rfl rfl ?_
    refine V_if_eq hC 21 (by decide) dX8_isPlace_14 (fun c4 => ?_) (fun c4 => ?_)
    · have hw := hw.1 c4
      refine V_iconst hC 0 dX8_isPlace_21 (by decide) ?_
      exact V_zret hC hr rfl ⟨0, rfl, rfl, hw⟩ dX8_isPlace_22
    · have hw := hw.2 c4
      refine V_iconst hC 1 dX8_isPlace_17 (by decide) ?_
      refine V_goto hC 22 (by decide) dX8_isPlace_18 ?_
      exact V_zret hC hr rfl ⟨1, rfl, rfl, hw⟩ dX8_isPlace_22
abbrev po_X8_isCookie (E : EN) (K : Int32 → Prop) : Option Value → va_W → Prop := fun v ws' => ∃ (r0 : Int32), v = some (.int r0) ∧ ws' = [] ∧ K r0
def wp_X8_isCookie (p1 : Int32) (K : Int32 → Prop) : Prop := (wp_X8_isWithin p1 0 1048575 (fun (r1 : Int32) => (narrow .boolean (.int r1) = .int r1 ∧ K r1)))
set_option maxRecDepth 100000 in
set_option maxHeartbeats 4000000 in
theorem ct_X8_isCookie (l : Launch) (E : EN) (p1 : Int32) (K : Int32 → Prop) (hw : wp_X8_isCookie p1 K) : Con l yX8_isCookie cX8_isCookie 1 (some .boolean) { frames := 1, cells := 0, slots := 0, locals := 22 } E [.int p1] [] (po_X8_isCookie E K) := by
  refine Con.mk (by decide +kernel) (Nat.le_of_ble_eq_true rfl) ?_
  intro p e s m below meth c A hC hr hin
  have hC : Cx p s m _ meth c E A cX8_isCookie 1 "CookieServer" := hC
  rw [wp_X8_isCookie] at hw
  refine V_cast [(0, .int p1)] [] [] [0] [] rfl rfl rfl rfl ?_
  refine V_iload_n hC 0 rfl rfl dX8_isCookie_0 ?_
  refine V_iconst hC 0 dX8_isCookie_1 (by decide) ?_
  refine V_ldc hC 1048575 wd_365 dX8_isCookie_2 ?_
  refine V_callS hC (wr := []) 3 [.int p1, .int 0, .int 1048575] [] (ct_X8_isWithin l E p1 0 1048575 _ hw) wd_221 wd_32 wd_219 wd_220 (by decide +kernel) rfl ⟨Nat.le_of_ble_eq_true rfl, Nat.le_of_ble_eq_true rfl⟩ [] [] rfl rfl rfl rfl (by decide) rfl (Nat.le_of_ble_eq_true rfl) ⟨Nat.le_of_ble_eq_true rfl, Nat.le_of_ble_eq_true rfl⟩ dX8_isCookie_4 (fun v ws' hp => ?_)
  obtain ⟨r1, rfl, rfl, hw⟩ := hp
  refine V_cast [(0, .int p1)] [.int r1] [] [0] [] rfl rfl rfl rfl ?_
  exact V_zret hC hr hw.1 ⟨r1, rfl, rfl, hw.2⟩ dX8_isCookie_7
abbrev po_X8_placeOf (E : EN) (K : Int32 → Prop) : Option Value → va_W → Prop := fun v ws' => ∃ (r0 : Int32), v = some (.int r0) ∧ ws' = [] ∧ K r0
def wp_X8_placeOf (p1 : Int32) (p2 : Int32) (K : Int32 → Prop) : Prop := K ((p1 * 8) + p2)
set_option maxRecDepth 100000 in
set_option maxHeartbeats 4000000 in
theorem ct_X8_placeOf (l : Launch) (E : EN) (p1 : Int32) (p2 : Int32) (K : Int32 → Prop) (hw : wp_X8_placeOf p1 p2 K) : Con l yX8_placeOf cX8_placeOf 2 (some .int) { frames := 0, cells := 0, slots := 0, locals := 0 } E [.int p1, .int p2] [] (po_X8_placeOf E K) := by
  refine Con.mk (by decide +kernel) (Nat.le_of_ble_eq_true rfl) ?_
  intro p e s m below meth c A hC hr hin
  have hC : Cx p s m _ meth c E A cX8_placeOf 2 "CookieServer" := hC
  rw [wp_X8_placeOf] at hw
  refine V_cast [(0, .int p1), (1, .int p2)] [] [] [0, 1] [] rfl rfl rfl rfl ?_
  refine V_iload_n hC 0 rfl rfl dX8_placeOf_0 ?_
  refine V_bipush hC 8 dX8_placeOf_1 (by decide) ?_
  refine V_imul hC dX8_placeOf_3 ?_
  refine V_iload_n hC 1 rfl rfl dX8_placeOf_4 ?_
  refine V_iadd hC dX8_placeOf_5 ?_
  exact V_iret hC hr ⟨(p1 * 8) + p2, rfl, rfl, hw⟩ dX8_placeOf_6
abbrev po_X8_mix (E : EN) (K : Int64 → Prop) : Option Value → va_W → Prop := fun v ws' => ∃ (r0 : Int64), v = some (.long r0) ∧ ws' = [] ∧ K r0
def wp_X8_mix (p1 : Int64) (p2 : Int64) (K : Int64 → Prop) : Prop := K ((31 * p1) + p2)
set_option maxRecDepth 100000 in
set_option maxHeartbeats 4000000 in
theorem ct_X8_mix (l : Launch) (E : EN) (p1 : Int64) (p2 : Int64) (K : Int64 → Prop) (hw : wp_X8_mix p1 p2 K) : Con l yX8_mix cX8_mix 4 (some .long) { frames := 0, cells := 0, slots := 0, locals := 0 } E [.long p1, .long p2] [] (po_X8_mix E K) := by
  refine Con.mk (by decide +kernel) (Nat.le_of_ble_eq_true rfl) ?_
  intro p e s m below meth c A hC hr hin
  have hC : Cx p s m _ meth c E A cX8_mix 4 "CookieServer" := hC
  rw [wp_X8_mix] at hw
  refine V_cast [(0, .long p1), (2, .long p2)] [] [] [0, 1] [] rfl rfl rfl rfl ?_
  refine V_ldc2 hC 31 wd_578 dX8_mix_0 ?_
  refine V_lload_n hC 0 rfl rfl dX8_mix_3 ?_
  refine V_lmul hC dX8_mix_4 ?_
  refine V_lload_n hC 1 rfl rfl dX8_mix_5 ?_
  refine V_ladd hC dX8_mix_6 ?_
  exact V_lret hC hr ⟨(31 * p1) + p2, rfl, rfl, hw⟩ dX8_mix_7
abbrev po_J9_floorMod_7cf53 (E : EN) (K : Int32 → Prop) : Option Value → va_W → Prop := fun v ws' => ∃ (r0 : Int32), v = some (.int r0) ∧ ws' = [] ∧ K r0
def wp_J9_floorMod_7cf53 (p1 : Int32) (p2 : Int32) (K : Int32 → Prop) : Prop := (¬ p2 = 0 ∧ ((0 ≤ (p1 ^^^ p2) → K (jrem p1 p2)) ∧ (¬ (0 ≤ (p1 ^^^ p2)) → (((jrem p1 p2) = 0 → K (jrem p1 p2)) ∧ (¬ ((jrem p1 p2) = 0) → K ((jrem p1 p2) + p2))))))
set_option maxRecDepth 100000 in
set_option maxHeartbeats 4000000 in
theorem ct_J9_floorMod_7cf53 (l : Launch) (E : EN) (p1 : Int32) (p2 : Int32) (K : Int32 → Prop) (hw : wp_J9_floorMod_7cf53 p1 p2 K) : Con l yJ9_floorMod_7cf53 cJ9_floorMod_7cf53 3 (some .int) { frames := 0, cells := 0, slots := 0, locals := 0 } E [.int p1, .int p2] [] (po_J9_floorMod_7cf53 E K) := by
  refine Con.mk (by decide +kernel) (Nat.le_of_ble_eq_true rfl) ?_
  intro p e s m below meth c A hC hr hin
  have hC : Cx p s m _ meth c E A cJ9_floorMod_7cf53 3 "java/lang/Math" := hC
  rw [wp_J9_floorMod_7cf53] at hw
  refine V_cast [(0, .int p1), (1, .int p2)] [] [] [0, 1] [] rfl rfl rfl rfl ?_
  refine V_iload_n hC 0 rfl rfl dJ9_floorMod_7cf53_0 ?_
  refine V_iload_n hC 1 rfl rfl dJ9_floorMod_7cf53_1 ?_
  refine V_irem hC hw.1 dJ9_floorMod_7cf53_2 ?_
  have hw := hw.2
  refine V_istore_n hC [(2, .int (jrem p1 p2)), (0, .int p1), (1, .int p2)] rfl (by decide) rfl dJ9_floorMod_7cf53_3 ?_
  refine V_iload_n hC 1 rfl rfl dJ9_floorMod_7cf53_4 ?_
  refine V_iload_n hC 2 rfl rfl dJ9_floorMod_7cf53_5 ?_
  refine V_ixor hC dJ9_floorMod_7cf53_6 ?_
  refine V_if_ge hC 18 (by decide) dJ9_floorMod_7cf53_7 (fun c1 => ?_) (fun c1 => ?_)
  · have hw := hw.1 c1
    refine V_iload_n hC 0 rfl rfl dJ9_floorMod_7cf53_18 ?_
    exact V_iret hC hr ⟨jrem p1 p2, rfl, rfl, hw⟩ dJ9_floorMod_7cf53_19
  · have hw := hw.2 c1
    refine V_iload_n hC 0 rfl rfl dJ9_floorMod_7cf53_10 ?_
    refine V_if_eq hC 18 (by decide) dJ9_floorMod_7cf53_11 (fun c2 => ?_) (fun c2 => ?_)
    · have hw := hw.1 c2
      refine V_iload_n hC 0 rfl rfl dJ9_floorMod_7cf53_18 ?_
      exact V_iret hC hr ⟨jrem p1 p2, rfl, rfl, hw⟩ dJ9_floorMod_7cf53_19
    · have hw := hw.2 c2
      refine V_iload_n hC 0 rfl rfl dJ9_floorMod_7cf53_14 ?_
      refine V_iload_n hC 2 rfl rfl dJ9_floorMod_7cf53_15 ?_
      refine V_iadd hC dJ9_floorMod_7cf53_16 ?_
      exact V_iret hC hr ⟨(jrem p1 p2) + p2, rfl, rfl, hw⟩ dJ9_floorMod_7cf53_17
abbrev po_X0_step (E : EN) (K : Int32 → Prop) : Option Value → va_W → Prop := fun v ws' => ∃ (r0 : Int32), v = some (.int r0) ∧ ws' = [] ∧ K r0
def wp_X0_step (p1 : Int32) (p2 : Int32) (K : Int32 → Prop) : Prop := K (jrem (((p1 * 16807) + p2) + 1) 65521)
set_option maxRecDepth 100000 in
set_option maxHeartbeats 4000000 in
theorem ct_X0_step (l : Launch) (E : EN) (p1 : Int32) (p2 : Int32) (K : Int32 → Prop) (hw : wp_X0_step p1 p2 K) : Con l yX0_step cX0_step 2 (some .int) { frames := 0, cells := 0, slots := 0, locals := 0 } E [.int p1, .int p2] [] (po_X0_step E K) := by
  refine Con.mk (by decide +kernel) (Nat.le_of_ble_eq_true rfl) ?_
  intro p e s m below meth c A hC hr hin
  have hC : Cx p s m _ meth c E A cX0_step 2 "CookieServer$Cookies" := hC
  rw [wp_X0_step] at hw
  refine V_cast [(0, .int p1), (1, .int p2)] [] [] [0, 1] [] rfl rfl rfl rfl ?_
  refine V_iload_n hC 0 rfl rfl dX0_step_0 ?_
  refine V_sipush hC 16807 dX0_step_1 (by decide) ?_
  refine V_imul hC dX0_step_4 ?_
  refine V_iload_n hC 1 rfl rfl dX0_step_5 ?_
  refine V_iadd hC dX0_step_6 ?_
  refine V_iconst hC 1 dX0_step_7 (by decide) ?_
  refine V_iadd hC dX0_step_8 ?_
  refine V_ldc hC 65521 wd_341 dX0_step_9 ?_
  refine V_irem hC (by decide) dX0_step_11 ?_
  exact V_iret hC hr ⟨jrem (((p1 * 16807) + p2) + 1) 65521, rfl, rfl, hw⟩ dX0_step_12
abbrev po_X0_mark (E : EN) (K : Int32 → Prop) : Option Value → va_W → Prop := fun v ws' => ∃ (r0 : Int32), v = some (.int r0) ∧ ws' = [] ∧ K r0
def wp_X0_mark (p1 : Int32) (p2 : Int32) (p3 : Int32) (p4 : Int32) (K : Int32 → Prop) : Prop := (wp_X0_step p1 (p2 / 8) (fun (r1 : Int32) => (wp_X0_step r1 (jrem p2 8) (fun (r2 : Int32) => (wp_X0_step r2 p3 (fun (r3 : Int32) => (wp_X0_step r3 p4 (fun (r4 : Int32) => K (jrem r4 4096)))))))))
set_option maxRecDepth 100000 in
set_option maxHeartbeats 4000000 in
theorem ct_X0_mark (l : Launch) (E : EN) (p1 : Int32) (p2 : Int32) (p3 : Int32) (p4 : Int32) (K : Int32 → Prop) (hw : wp_X0_mark p1 p2 p3 p4 K) : Con l yX0_mark cX0_mark 5 (some .int) { frames := 1, cells := 0, slots := 0, locals := 21 } E [.int p1, .int p2, .int p3, .int p4] [] (po_X0_mark E K) := by
  refine Con.mk (by decide +kernel) (Nat.le_of_ble_eq_true rfl) ?_
  intro p e s m below meth c A hC hr hin
  have hC : Cx p s m _ meth c E A cX0_mark 5 "CookieServer$Cookies" := hC
  rw [wp_X0_mark] at hw
  refine V_cast [(0, .int p1), (1, .int p2), (2, .int p3), (3, .int p4)] [] [] [0, 1, 2, 3] [] rfl rfl rfl rfl ?_
  refine V_iload_n hC 0 rfl rfl dX0_mark_0 ?_
  refine V_iload_n hC 1 rfl rfl dX0_mark_1 ?_
  refine V_bipush hC 8 dX0_mark_2 (by decide) ?_
  refine V_idiv hC (by decide) dX0_mark_4 ?_
  refine V_callS hC (wr := []) 2 [.int p1, .int (p2 / 8)] [] (ct_X0_step l E p1 (p2 / 8) _ hw) wd_340 wd_43 wd_338 wd_339 (by decide +kernel) rfl ⟨Nat.le_of_ble_eq_true rfl, Nat.le_of_ble_eq_true rfl⟩ [] [] rfl rfl rfl rfl (by decide) rfl (Nat.le_of_ble_eq_true rfl) ⟨Nat.le_of_ble_eq_true rfl, Nat.le_of_ble_eq_true rfl⟩ dX0_mark_5 (fun v ws' hp => ?_)
  obtain ⟨r1, rfl, rfl, hw⟩ := hp
  refine V_cast [(0, .int p1), (1, .int p2), (2, .int p3), (3, .int p4)] [.int r1] [] [0, 1, 2, 3] [] rfl rfl rfl rfl ?_
  refine V_istore hC [(4, .int r1), (0, .int p1), (1, .int p2), (2, .int p3), (3, .int p4)] (by decide) rfl dX0_mark_8 ?_
  refine V_iload hC 0 rfl dX0_mark_10 ?_
  refine V_iload_n hC 2 rfl rfl dX0_mark_12 ?_
  refine V_bipush hC 8 dX0_mark_13 (by decide) ?_
  refine V_irem hC (by decide) dX0_mark_15 ?_
  refine V_callS hC (wr := []) 2 [.int r1, .int (jrem p2 8)] [] (ct_X0_step l E r1 (jrem p2 8) _ hw) wd_340 wd_43 wd_338 wd_339 (by decide +kernel) rfl ⟨Nat.le_of_ble_eq_true rfl, Nat.le_of_ble_eq_true rfl⟩ [] [] rfl rfl rfl rfl (by decide) rfl (Nat.le_of_ble_eq_true rfl) ⟨Nat.le_of_ble_eq_true rfl, Nat.le_of_ble_eq_true rfl⟩ dX0_mark_16 (fun v ws' hp => ?_)
  obtain ⟨r2, rfl, rfl, hw⟩ := hp
  refine V_cast [(4, .int r1), (0, .int p1), (1, .int p2), (2, .int p3), (3, .int p4)] [.int r2] [] [0, 1, 2, 3, 4] [] rfl rfl rfl rfl ?_
  refine V_istore hC [(4, .int r2), (0, .int p1), (1, .int p2), (2, .int p3), (3, .int p4)] (by decide) rfl dX0_mark_19 ?_
  refine V_iload hC 0 rfl dX0_mark_21 ?_
  refine V_iload_n hC 3 rfl rfl dX0_mark_23 ?_
  refine V_callS hC (wr := []) 2 [.int r2, .int p3] [] (ct_X0_step l E r2 p3 _ hw) wd_340 wd_43 wd_338 wd_339 (by decide +kernel) rfl ⟨Nat.le_of_ble_eq_true rfl, Nat.le_of_ble_eq_true rfl⟩ [] [] rfl rfl rfl rfl (by decide) rfl (Nat.le_of_ble_eq_true rfl) ⟨Nat.le_of_ble_eq_true rfl, Nat.le_of_ble_eq_true rfl⟩ dX0_mark_24 (fun v ws' hp => ?_)
  obtain ⟨r3, rfl, rfl, hw⟩ := hp
  refine V_cast [(4, .int r2), (0, .int p1), (1, .int p2), (2, .int p3), (3, .int p4)] [.int r3] [] [0, 1, 2, 3, 4] [] rfl rfl rfl rfl ?_
  refine V_istore hC [(4, .int r3), (0, .int p1), (1, .int p2), (2, .int p3), (3, .int p4)] (by decide) rfl dX0_mark_27 ?_
  refine V_iload hC 0 rfl dX0_mark_29 ?_
  refine V_iload_n hC 4 rfl rfl dX0_mark_31 ?_
  refine V_callS hC (wr := []) 2 [.int r3, .int p4] [] (ct_X0_step l E r3 p4 _ hw) wd_340 wd_43 wd_338 wd_339 (by decide +kernel) rfl ⟨Nat.le_of_ble_eq_true rfl, Nat.le_of_ble_eq_true rfl⟩ [] [] rfl rfl rfl rfl (by decide) rfl (Nat.le_of_ble_eq_true rfl) ⟨Nat.le_of_ble_eq_true rfl, Nat.le_of_ble_eq_true rfl⟩ dX0_mark_32 (fun v ws' hp => ?_)
  obtain ⟨r4, rfl, rfl, hw⟩ := hp
  refine V_cast [(4, .int r3), (0, .int p1), (1, .int p2), (2, .int p3), (3, .int p4)] [.int r4] [] [0, 1, 2, 3, 4] [] rfl rfl rfl rfl ?_
  refine V_istore hC [(4, .int r4), (0, .int p1), (1, .int p2), (2, .int p3), (3, .int p4)] (by decide) rfl dX0_mark_35 ?_
  refine V_iload hC 0 rfl dX0_mark_37 ?_
  refine V_sipush hC 4096 dX0_mark_39 (by decide) ?_
  refine V_irem hC (by decide) dX0_mark_42 ?_
  exact V_iret hC hr ⟨jrem r4 4096, rfl, rfl, hw⟩ dX0_mark_43
abbrev po_X0_make (E : EN) (K : Int32 → Prop) : Option Value → va_W → Prop := fun v ws' => ∃ (r0 : Int32), v = some (.int r0) ∧ ws' = [] ∧ K r0
def wp_X0_make (p1 : Int32) (p2 : Int32) (p3 : Int32) (p4 : Int32) (K : Int32 → Prop) : Prop := (wp_X0_mark p1 p2 p3 p4 (fun (r1 : Int32) => K ((((p3 * 8) + p4) * 4096) + r1)))
set_option maxRecDepth 100000 in
set_option maxHeartbeats 4000000 in
theorem ct_X0_make (l : Launch) (E : EN) (p1 : Int32) (p2 : Int32) (p3 : Int32) (p4 : Int32) (K : Int32 → Prop) (hw : wp_X0_make p1 p2 p3 p4 K) : Con l yX0_make cX0_make 4 (some .int) { frames := 2, cells := 0, slots := 0, locals := 45 } E [.int p1, .int p2, .int p3, .int p4] [] (po_X0_make E K) := by
  refine Con.mk (by decide +kernel) (Nat.le_of_ble_eq_true rfl) ?_
  intro p e s m below meth c A hC hr hin
  have hC : Cx p s m _ meth c E A cX0_make 4 "CookieServer$Cookies" := hC
  rw [wp_X0_make] at hw
  refine V_cast [(0, .int p1), (1, .int p2), (2, .int p3), (3, .int p4)] [] [] [0, 1, 2, 3] [] rfl rfl rfl rfl ?_
  refine V_iload_n hC 2 rfl rfl dX0_make_0 ?_
  refine V_bipush hC 8 dX0_make_1 (by decide) ?_
  refine V_imul hC dX0_make_3 ?_
  refine V_iload_n hC 3 rfl rfl dX0_make_4 ?_
  refine V_iadd hC dX0_make_5 ?_
  refine V_sipush hC 4096 dX0_make_6 (by decide) ?_
  refine V_imul hC dX0_make_9 ?_
  refine V_iload_n hC 0 rfl rfl dX0_make_10 ?_
  refine V_iload_n hC 1 rfl rfl dX0_make_11 ?_
  refine V_iload_n hC 2 rfl rfl dX0_make_12 ?_
  refine V_iload_n hC 3 rfl rfl dX0_make_13 ?_
  refine V_callS hC (wr := []) 4 [.int p1, .int p2, .int p3, .int p4] [.int (((p3 * 8) + p4) * 4096)] (ct_X0_mark l E p1 p2 p3 p4 _ hw) wd_337 wd_43 wd_335 wd_336 (by decide +kernel) rfl ⟨Nat.le_of_ble_eq_true rfl, Nat.le_of_ble_eq_true rfl⟩ [] [] rfl rfl rfl rfl (by decide) rfl (Nat.le_of_ble_eq_true rfl) ⟨Nat.le_of_ble_eq_true rfl, Nat.le_of_ble_eq_true rfl⟩ dX0_make_14 (fun v ws' hp => ?_)
  obtain ⟨r1, rfl, rfl, hw⟩ := hp
  refine V_cast [(0, .int p1), (1, .int p2), (2, .int p3), (3, .int p4)] [.int r1, .int (((p3 * 8) + p4) * 4096)] [] [0, 1, 2, 3] [] rfl rfl rfl rfl ?_
  refine V_iadd hC dX0_make_17 ?_
  exact V_iret hC hr ⟨(((p3 * 8) + p4) * 4096) + r1, rfl, rfl, hw⟩ dX0_make_18
abbrev po_X0_stampOf (E : EN) (K : Int32 → Prop) : Option Value → va_W → Prop := fun v ws' => ∃ (r0 : Int32), v = some (.int r0) ∧ ws' = [] ∧ K r0
def wp_X0_stampOf (p1 : Int32) (K : Int32 → Prop) : Prop := K (p1 / 32768)
set_option maxRecDepth 100000 in
set_option maxHeartbeats 4000000 in
theorem ct_X0_stampOf (l : Launch) (E : EN) (p1 : Int32) (K : Int32 → Prop) (hw : wp_X0_stampOf p1 K) : Con l yX0_stampOf cX0_stampOf 1 (some .int) { frames := 0, cells := 0, slots := 0, locals := 0 } E [.int p1] [] (po_X0_stampOf E K) := by
  refine Con.mk (by decide +kernel) (Nat.le_of_ble_eq_true rfl) ?_
  intro p e s m below meth c A hC hr hin
  have hC : Cx p s m _ meth c E A cX0_stampOf 1 "CookieServer$Cookies" := hC
  rw [wp_X0_stampOf] at hw
  refine V_cast [(0, .int p1)] [] [] [0] [] rfl rfl rfl rfl ?_
  refine V_iload_n hC 0 rfl rfl dX0_stampOf_0 ?_
  refine V_ldc hC 32768 wd_301 dX0_stampOf_1 ?_
  refine V_idiv hC (by decide) dX0_stampOf_3 ?_
  exact V_iret hC hr ⟨p1 / 32768, rfl, rfl, hw⟩ dX0_stampOf_4
abbrev po_X0_optionOf (E : EN) (K : Int32 → Prop) : Option Value → va_W → Prop := fun v ws' => ∃ (r0 : Int32), v = some (.int r0) ∧ ws' = [] ∧ K r0
def wp_X0_optionOf (p1 : Int32) (K : Int32 → Prop) : Prop := K (jrem (p1 / 4096) 8)
set_option maxRecDepth 100000 in
set_option maxHeartbeats 4000000 in
theorem ct_X0_optionOf (l : Launch) (E : EN) (p1 : Int32) (K : Int32 → Prop) (hw : wp_X0_optionOf p1 K) : Con l yX0_optionOf cX0_optionOf 1 (some .int) { frames := 0, cells := 0, slots := 0, locals := 0 } E [.int p1] [] (po_X0_optionOf E K) := by
  refine Con.mk (by decide +kernel) (Nat.le_of_ble_eq_true rfl) ?_
  intro p e s m below meth c A hC hr hin
  have hC : Cx p s m _ meth c E A cX0_optionOf 1 "CookieServer$Cookies" := hC
  rw [wp_X0_optionOf] at hw
  refine V_cast [(0, .int p1)] [] [] [0] [] rfl rfl rfl rfl ?_
  refine V_iload_n hC 0 rfl rfl dX0_optionOf_0 ?_
  refine V_sipush hC 4096 dX0_optionOf_1 (by decide) ?_
  refine V_idiv hC (by decide) dX0_optionOf_4 ?_
  refine V_bipush hC 8 dX0_optionOf_5 (by decide) ?_
  refine V_irem hC (by decide) dX0_optionOf_7 ?_
  exact V_iret hC hr ⟨jrem (p1 / 4096) 8, rfl, rfl, hw⟩ dX0_optionOf_8
abbrev po_X0_isMarkedWith (E : EN) (K : Int32 → Prop) : Option Value → va_W → Prop := fun v ws' => ∃ (r0 : Int32), v = some (.int r0) ∧ ws' = [] ∧ K r0
def wp_X0_isMarkedWith (p1 : Int32) (p2 : Int32) (p3 : Int32) (K : Int32 → Prop) : Prop := (wp_X0_stampOf p3 (fun (r1 : Int32) => (wp_X0_optionOf p3 (fun (r2 : Int32) => (wp_X0_mark p1 p2 r1 r2 (fun (r3 : Int32) => ((¬ (jrem p3 4096) = r3 → K 0) ∧ ((jrem p3 4096) = r3 → K 1))))))))
set_option maxRecDepth 100000 in
set_option maxHeartbeats 4000000 in
theorem ct_X0_isMarkedWith (l : Launch) (E : EN) (p1 : Int32) (p2 : Int32) (p3 : Int32) (K : Int32 → Prop) (hw : wp_X0_isMarkedWith p1 p2 p3 K) : Con l yX0_isMarkedWith cX0_isMarkedWith 3 (some .boolean) { frames := 2, cells := 0, slots := 0, locals := 45 } E [.int p1, .int p2, .int p3] [] (po_X0_isMarkedWith E K) := by
  refine Con.mk (by decide +kernel) (Nat.le_of_ble_eq_true rfl) ?_
  intro p e s m below meth c A hC hr hin
  have hC : Cx p s m _ meth c E A cX0_isMarkedWith 3 "CookieServer$Cookies" := hC
  rw [wp_X0_isMarkedWith] at hw
  refine V_cast [(0, .int p1), (1, .int p2), (2, .int p3)] [] [] [0, 1, 2] [] rfl rfl rfl rfl ?_
  refine V_iload_n hC 2 rfl rfl dX0_isMarkedWith_0 ?_
  refine V_sipush hC 4096 dX0_isMarkedWith_1 (by decide) ?_
  refine V_irem hC (by decide) dX0_isMarkedWith_4 ?_
  refine V_iload_n hC 0 rfl rfl dX0_isMarkedWith_5 ?_
  refine V_iload_n hC 1 rfl rfl dX0_isMarkedWith_6 ?_
  refine V_iload_n hC 2 rfl rfl dX0_isMarkedWith_7 ?_
  refine V_callS hC (wr := []) 1 [.int p3] [.int p2, .int p1, .int (jrem p3 4096)] (ct_X0_stampOf l E p3 _ hw) wd_300 wd_43 wd_298 wd_299 (by decide +kernel) rfl ⟨Nat.le_of_ble_eq_true rfl, Nat.le_of_ble_eq_true rfl⟩ [] [] rfl rfl rfl rfl (by decide) rfl (Nat.le_of_ble_eq_true rfl) ⟨Nat.le_of_ble_eq_true rfl, Nat.le_of_ble_eq_true rfl⟩ dX0_isMarkedWith_8 (fun v ws' hp => ?_)
  obtain ⟨r1, rfl, rfl, hw⟩ := hp
  refine V_cast [(0, .int p1), (1, .int p2), (2, .int p3)] [.int r1, .int p2, .int p1, .int (jrem p3 4096)] [] [0, 1, 2] [] rfl rfl rfl rfl ?_
  refine V_iload_n hC 2 rfl rfl dX0_isMarkedWith_11 ?_
  refine V_callS hC (wr := []) 1 [.int p3] [.int r1, .int p2, .int p1, .int (jrem p3 4096)] (ct_X0_optionOf l E p3 _ hw) wd_384 wd_43 wd_414 wd_383 (by decide +kernel) rfl ⟨Nat.le_of_ble_eq_true rfl, Nat.le_of_ble_eq_true rfl⟩ [] [] rfl rfl rfl rfl (by decide) rfl (Nat.le_of_ble_eq_true rfl) ⟨Nat.le_of_ble_eq_true rfl, Nat.le_of_ble_eq_true rfl⟩ dX0_isMarkedWith_12 (fun v ws' hp => ?_)
  obtain ⟨r2, rfl, rfl, hw⟩ := hp
  refine V_cast [(0, .int p1), (1, .int p2), (2, .int p3)] [.int r2, .int r1, .int p2, .int p1, .int (jrem p3 4096)] [] [0, 1, 2] [] rfl rfl rfl rfl ?_
  refine V_callS hC (wr := []) 4 [.int p1, .int p2, .int r1, .int r2] [.int (jrem p3 4096)] (ct_X0_mark l E p1 p2 r1 r2 _ hw) wd_337 wd_43 wd_335 wd_336 (by decide +kernel) rfl ⟨Nat.le_of_ble_eq_true rfl, Nat.le_of_ble_eq_true rfl⟩ [] [] rfl rfl rfl rfl (by decide) rfl (Nat.le_of_ble_eq_true rfl) ⟨Nat.le_of_ble_eq_true rfl, Nat.le_of_ble_eq_true rfl⟩ dX0_isMarkedWith_15 (fun v ws' hp => ?_)
  obtain ⟨r3, rfl, rfl, hw⟩ := hp
  refine V_cast [(0, .int p1), (1, .int p2), (2, .int p3)] [.int r3, .int (jrem p3 4096)] [] [0, 1, 2] [] rfl rfl rfl rfl ?_
  refine V_icmp_ne hC 25 (by decide) dX0_isMarkedWith_18 (fun c4 => ?_) (fun c4 => ?_)
  · have hw := hw.1 c4
    refine V_iconst hC 0 dX0_isMarkedWith_25 (by decide) ?_
    exact V_zret hC hr rfl ⟨0, rfl, rfl, hw⟩ dX0_isMarkedWith_26
  · have hw := hw.2 c4
    refine V_iconst hC 1 dX0_isMarkedWith_21 (by decide) ?_
    refine V_goto hC 26 (by decide) dX0_isMarkedWith_22 ?_
    exact V_zret hC hr rfl ⟨1, rfl, rfl, hw⟩ dX0_isMarkedWith_26
abbrev po_X0_age (E : EN) (K : Int32 → Prop) : Option Value → va_W → Prop := fun v ws' => ∃ (r0 : Int32), v = some (.int r0) ∧ ws' = [] ∧ K r0
def wp_X0_age (p1 : Int32) (p2 : Int32) (K : Int32 → Prop) : Prop := (wp_X0_stampOf p1 (fun (r1 : Int32) => (wp_J9_floorMod_7cf53 (p2 - r1) 32 (fun (r2 : Int32) => K r2))))
set_option maxRecDepth 100000 in
set_option maxHeartbeats 4000000 in
theorem ct_X0_age (l : Launch) (E : EN) (p1 : Int32) (p2 : Int32) (K : Int32 → Prop) (hw : wp_X0_age p1 p2 K) : Con l yX0_age cX0_age 2 (some .int) { frames := 1, cells := 0, slots := 0, locals := 22 } E [.int p1, .int p2] [] (po_X0_age E K) := by
  refine Con.mk (by decide +kernel) (Nat.le_of_ble_eq_true rfl) ?_
  intro p e s m below meth c A hC hr hin
  have hC : Cx p s m _ meth c E A cX0_age 2 "CookieServer$Cookies" := hC
  rw [wp_X0_age] at hw
  refine V_cast [(0, .int p1), (1, .int p2)] [] [] [0, 1] [] rfl rfl rfl rfl ?_
  refine V_iload_n hC 1 rfl rfl dX0_age_0 ?_
  refine V_iload_n hC 0 rfl rfl dX0_age_1 ?_
  refine V_callS hC (wr := []) 1 [.int p1] [.int p2] (ct_X0_stampOf l E p1 _ hw) wd_300 wd_43 wd_298 wd_299 (by decide +kernel) rfl ⟨Nat.le_of_ble_eq_true rfl, Nat.le_of_ble_eq_true rfl⟩ [] [] rfl rfl rfl rfl (by decide) rfl (Nat.le_of_ble_eq_true rfl) ⟨Nat.le_of_ble_eq_true rfl, Nat.le_of_ble_eq_true rfl⟩ dX0_age_2 (fun v ws' hp => ?_)
  obtain ⟨r1, rfl, rfl, hw⟩ := hp
  refine V_cast [(0, .int p1), (1, .int p2)] [.int r1, .int p2] [] [0, 1] [] rfl rfl rfl rfl ?_
  refine V_isub hC dX0_age_5 ?_
  refine V_bipush hC 32 dX0_age_6 (by decide) ?_
  refine V_callS hC (wr := []) 2 [.int (p2 - r1), .int 32] [] (ct_J9_floorMod_7cf53 l E (p2 - r1) 32 _ hw) wd_278 wd_42 wd_302 wd_277 (by decide +kernel) rfl ⟨Nat.le_of_ble_eq_true rfl, Nat.le_of_ble_eq_true rfl⟩ [] [] rfl rfl rfl rfl (by decide) rfl (Nat.le_of_ble_eq_true rfl) ⟨Nat.le_of_ble_eq_true rfl, Nat.le_of_ble_eq_true rfl⟩ dX0_age_8 (fun v ws' hp => ?_)
  obtain ⟨r2, rfl, rfl, hw⟩ := hp
  refine V_cast [(0, .int p1), (1, .int p2)] [.int r2] [] [0, 1] [] rfl rfl rfl rfl ?_
  exact V_iret hC hr ⟨r2, rfl, rfl, hw⟩ dX0_age_11
abbrev po_X0_isSolution (E : EN) (K : Int32 → Prop) : Option Value → va_W → Prop := fun v ws' => ∃ (r0 : Int32), v = some (.int r0) ∧ ws' = [] ∧ K r0
def wp_X0_isSolution (p1 : Int32) (p2 : Int32) (p3 : Int32) (K : Int32 → Prop) : Prop := (wp_X0_step 0 p1 (fun (r1 : Int32) => (wp_X0_step r1 p3 (fun (r2 : Int32) => ((¬ ((jrem r2 4096) &&& ((1 <<< (p2 &&& 31)) - 1)) = 0 → K 0) ∧ (((jrem r2 4096) &&& ((1 <<< (p2 &&& 31)) - 1)) = 0 → K 1))))))
set_option maxRecDepth 100000 in
set_option maxHeartbeats 4000000 in
theorem ct_X0_isSolution (l : Launch) (E : EN) (p1 : Int32) (p2 : Int32) (p3 : Int32) (K : Int32 → Prop) (hw : wp_X0_isSolution p1 p2 p3 K) : Con l yX0_isSolution cX0_isSolution 5 (some .boolean) { frames := 1, cells := 0, slots := 0, locals := 21 } E [.int p1, .int p2, .int p3] [] (po_X0_isSolution E K) := by
  refine Con.mk (by decide +kernel) (Nat.le_of_ble_eq_true rfl) ?_
  intro p e s m below meth c A hC hr hin
  have hC : Cx p s m _ meth c E A cX0_isSolution 5 "CookieServer$Cookies" := hC
  rw [wp_X0_isSolution] at hw
  refine V_cast [(0, .int p1), (1, .int p2), (2, .int p3)] [] [] [0, 1, 2] [] rfl rfl rfl rfl ?_
  refine V_iconst hC 0 dX0_isSolution_0 (by decide) ?_
  refine V_iload_n hC 0 rfl rfl dX0_isSolution_1 ?_
  refine V_callS hC (wr := []) 2 [.int 0, .int p1] [] (ct_X0_step l E 0 p1 _ hw) wd_340 wd_43 wd_338 wd_339 (by decide +kernel) rfl ⟨Nat.le_of_ble_eq_true rfl, Nat.le_of_ble_eq_true rfl⟩ [] [] rfl rfl rfl rfl (by decide) rfl (Nat.le_of_ble_eq_true rfl) ⟨Nat.le_of_ble_eq_true rfl, Nat.le_of_ble_eq_true rfl⟩ dX0_isSolution_2 (fun v ws' hp => ?_)
  obtain ⟨r1, rfl, rfl, hw⟩ := hp
  refine V_cast [(0, .int p1), (1, .int p2), (2, .int p3)] [.int r1] [] [0, 1, 2] [] rfl rfl rfl rfl ?_
  refine V_iload_n hC 2 rfl rfl dX0_isSolution_5 ?_
  refine V_callS hC (wr := []) 2 [.int r1, .int p3] [] (ct_X0_step l E r1 p3 _ hw) wd_340 wd_43 wd_338 wd_339 (by decide +kernel) rfl ⟨Nat.le_of_ble_eq_true rfl, Nat.le_of_ble_eq_true rfl⟩ [] [] rfl rfl rfl rfl (by decide) rfl (Nat.le_of_ble_eq_true rfl) ⟨Nat.le_of_ble_eq_true rfl, Nat.le_of_ble_eq_true rfl⟩ dX0_isSolution_6 (fun v ws' hp => ?_)
  obtain ⟨r2, rfl, rfl, hw⟩ := hp
  refine V_cast [(0, .int p1), (1, .int p2), (2, .int p3)] [.int r2] [] [0, 1, 2] [] rfl rfl rfl rfl ?_
  refine V_sipush hC 4096 dX0_isSolution_9 (by decide) ?_
  refine V_irem hC (by decide) dX0_isSolution_12 ?_
  refine V_istore_n hC [(3, .int (jrem r2 4096)), (0, .int p1), (1, .int p2), (2, .int p3)] rfl (by decide) rfl dX0_isSolution_13 ?_
  refine V_iconst hC 1 dX0_isSolution_14 (by decide) ?_
  refine V_iload_n hC 2 rfl rfl dX0_isSolution_15 ?_
  refine V_ishl hC dX0_isSolution_16 ?_
  refine V_iconst hC 1 dX0_isSolution_17 (by decide) ?_
  refine V_isub hC dX0_isSolution_18 ?_
  refine V_istore hC [(4, .int ((1 <<< (p2 &&& 31)) - 1)), (3, .int (jrem r2 4096)), (0, .int p1), (1, .int p2), (2, .int p3)] (by decide) rfl dX0_isSolution_19 ?_
  refine V_iload_n hC 1 rfl rfl dX0_isSolution_21 ?_
  refine V_iload hC 0 rfl dX0_isSolution_22 ?_
  refine V_iand hC dX0_isSolution_24 ?_
  refine V_if_ne hC 32 (by decide) dX0_isSolution_25 (fun c3 => ?_) (fun c3 => ?_)
  · have hw := hw.1 c3
    refine V_iconst hC 0 dX0_isSolution_32 (by decide) ?_
    exact V_zret hC hr rfl ⟨0, rfl, rfl, hw⟩ dX0_isSolution_33
  · have hw := hw.2 c3
    refine V_iconst hC 1 dX0_isSolution_28 (by decide) ?_
    refine V_goto hC 33 (by decide) dX0_isSolution_29 ?_
    exact V_zret hC hr rfl ⟨1, rfl, rfl, hw⟩ dX0_isSolution_33
abbrev po_X0_optionForWish (E : EN) (K : Int32 → Prop) : Option Value → va_W → Prop := fun v ws' => ∃ (r0 : Int32), v = some (.int r0) ∧ ws' = [] ∧ K r0
def wpl_X0_optionForWish_4 (K : Int32 → Prop) : Nat → Int32 → Int32 → Int32 → Prop
  | 0, _, _, _ => False
  | n9 + 1, x0, x1, x2 => ((8 ≤ x2 → K x1) ∧ (¬ (8 ≤ x2) → (vp_in x2 8 ∧ ((x0 < (segs.getD (Int32.toNatClampNeg x2) 0) → wpl_X0_optionForWish_4 K n9 x0 x1 (x2 + 1)) ∧ (¬ (x0 < (segs.getD (Int32.toNatClampNeg x2) 0)) → wpl_X0_optionForWish_4 K n9 x0 x2 (x2 + 1))))))
set_option maxRecDepth 100000 in
set_option maxHeartbeats 4000000 in
theorem bl_X0_optionForWish_4 {p : Program} {l : Launch} {e : Env} {s : State} {m : MethodId} {args : Array Value} {below : List Frame} {meth : Method} {c : Code} {E : EN} {A : Nat → Prop} (hC : Cx p s m args meth c E A cX0_optionForWish 3 "CookieServer$Cookies") (hr : meth.sig.returnType = some .int) (K : Int32 → Prop) : ∀ (n8 : Nat) (x0 : Int32) (x1 : Int32) (x2 : Int32), wpl_X0_optionForWish_4 K n8 x0 x1 x2 → V p l e { frames := 0, cells := 0, slots := 0, locals := 0 } s m args below meth c E A 3 0 0 (MQ below (QP E (po_X0_optionForWish E K) A) args s 0 0 A) 4 [(0, .int x0), (1, .int x1), (2, .int x2)] [] [] := by
  intro n8
  induction n8 with
  | zero => intro x0 x1 x2 hw; rw [wpl_X0_optionForWish_4] at hw; exact hw.elim
  | succ n9 ih =>
    intro x0 x1 x2 hw
    rw [wpl_X0_optionForWish_4] at hw
    refine V_iload_n hC 2 rfl rfl dX0_optionForWish_4 ?_
    refine V_bipush hC 8 dX0_optionForWish_5 (by decide) ?_
    refine V_icmp_ge hC 27 (by decide) dX0_optionForWish_7 (fun c1 => ?_) (fun c1 => ?_)
    · have hw := hw.1 c1
      refine V_iload_n hC 1 rfl rfl dX0_optionForWish_27 ?_
      exact V_iret hC hr ⟨x1, rfl, rfl, hw⟩ dX0_optionForWish_28
    · have hw := hw.2 c1
      refine V_gets hC wd_330 dX0_optionForWish_10 ?_
      refine V_iload_n hC 2 rfl rfl dX0_optionForWish_13 ?_
      refine V_sald hC hw.1 dX0_optionForWish_14 ?_
      have hw := hw.2
      refine V_iload_n hC 0 rfl rfl dX0_optionForWish_15 ?_
      refine V_icmp_gt hC 21 (by decide) dX0_optionForWish_16 (fun c2 => ?_) (fun c2 => ?_)
      · have hw := hw.1 c2
        refine V_iinc hC (x2 + 1) 2 [(2, .int (x2 + 1)), (0, .int x0), (1, .int x1)] rfl (congrArg (fun z => x2 + z) (by decide : Int32.ofInt (1) = (1 : Int32))) (by decide) rfl dX0_optionForWish_21 ?_
        refine V_goto hC 4 (by decide) dX0_optionForWish_24 ?_
        refine V_cast [(0, .int x0), (1, .int x1), (2, .int (x2 + 1))] [] [] [1, 2, 0] [] rfl rfl rfl rfl ?_
        exact ih x0 x1 (x2 + 1) hw
      · have hw := hw.2 c2
        refine V_iload_n hC 2 rfl rfl dX0_optionForWish_19 ?_
        refine V_istore_n hC [(1, .int x2), (0, .int x0), (2, .int x2)] rfl (by decide) rfl dX0_optionForWish_20 ?_
        refine V_iinc hC (x2 + 1) 2 [(2, .int (x2 + 1)), (1, .int x2), (0, .int x0)] rfl (congrArg (fun z => x2 + z) (by decide : Int32.ofInt (1) = (1 : Int32))) (by decide) rfl dX0_optionForWish_21 ?_
        refine V_goto hC 4 (by decide) dX0_optionForWish_24 ?_
        refine V_cast [(0, .int x0), (1, .int x2), (2, .int (x2 + 1))] [] [] [2, 1, 0] [] rfl rfl rfl rfl ?_
        exact ih x0 x2 (x2 + 1) hw
def wp_X0_optionForWish (p1 : Int32) (K : Int32 → Prop) : Prop := (∃ n8 : Nat, wpl_X0_optionForWish_4 K n8 p1 0 1)
set_option maxRecDepth 100000 in
set_option maxHeartbeats 4000000 in
theorem ct_X0_optionForWish (l : Launch) (E : EN) (p1 : Int32) (K : Int32 → Prop) (hw : wp_X0_optionForWish p1 K) : Con l yX0_optionForWish cX0_optionForWish 3 (some .int) { frames := 0, cells := 0, slots := 0, locals := 0 } E [.int p1] [] (po_X0_optionForWish E K) := by
  refine Con.mk (by decide +kernel) (Nat.le_of_ble_eq_true rfl) ?_
  intro p e s m below meth c A hC hr hin
  have hC : Cx p s m _ meth c E A cX0_optionForWish 3 "CookieServer$Cookies" := hC
  rw [wp_X0_optionForWish] at hw
  refine V_cast [(0, .int p1)] [] [] [0] [] rfl rfl rfl rfl ?_
  refine V_iconst hC 0 dX0_optionForWish_0 (by decide) ?_
  refine V_istore_n hC [(1, .int 0), (0, .int p1)] rfl (by decide) rfl dX0_optionForWish_1 ?_
  refine V_iconst hC 1 dX0_optionForWish_2 (by decide) ?_
  refine V_istore_n hC [(2, .int 1), (1, .int 0), (0, .int p1)] rfl (by decide) rfl dX0_optionForWish_3 ?_
  refine V_cast [(0, .int p1), (1, .int 0), (2, .int 1)] [] [] [2, 1, 0] [] rfl rfl rfl rfl ?_
  obtain ⟨n8, hw⟩ := hw
  exact bl_X0_optionForWish_4 hC hr K n8 p1 0 1 hw
abbrev po_X0_sizeOfOption (E : EN) (K : Int32 → Prop) : Option Value → va_W → Prop := fun v ws' => ∃ (r0 : Int32), v = some (.int r0) ∧ ws' = [] ∧ K r0
def wp_X0_sizeOfOption (p1 : Int32) (K : Int32 → Prop) : Prop := (wp_X8_isWithin p1 0 7 (fun (r1 : Int32) => ((r1 = 0 → K (-1)) ∧ (¬ (r1 = 0) → (vp_in p1 8 ∧ K (segs.getD (Int32.toNatClampNeg p1) 0))))))
set_option maxRecDepth 100000 in
set_option maxHeartbeats 4000000 in
theorem ct_X0_sizeOfOption (l : Launch) (E : EN) (p1 : Int32) (K : Int32 → Prop) (hw : wp_X0_sizeOfOption p1 K) : Con l yX0_sizeOfOption cX0_sizeOfOption 1 (some .int) { frames := 1, cells := 0, slots := 0, locals := 22 } E [.int p1] [] (po_X0_sizeOfOption E K) := by
  refine Con.mk (by decide +kernel) (Nat.le_of_ble_eq_true rfl) ?_
  intro p e s m below meth c A hC hr hin
  have hC : Cx p s m _ meth c E A cX0_sizeOfOption 1 "CookieServer$Cookies" := hC
  rw [wp_X0_sizeOfOption] at hw
  refine V_cast [(0, .int p1)] [] [] [0] [] rfl rfl rfl rfl ?_
  refine V_iload_n hC 0 rfl rfl dX0_sizeOfOption_0 ?_
  refine V_iconst hC 0 dX0_sizeOfOption_1 (by decide) ?_
  refine V_bipush hC 7 dX0_sizeOfOption_2 (by decide) ?_
  refine V_callSN hC (wr := []) 3 [.int p1, .int 0, .int 7] [] (ct_X8_isWithin l E p1 0 7 _ hw) wd_221 wd_32 wd_392 wd_220 (by decide +kernel) rfl ⟨Nat.le_of_ble_eq_true rfl, Nat.le_of_ble_eq_true rfl⟩ [] [] rfl rfl rfl rfl (by decide) rfl (Nat.le_of_ble_eq_true rfl) ⟨Nat.le_of_ble_eq_true rfl, Nat.le_of_ble_eq_true rfl⟩ dX0_sizeOfOption_4 (fun v ws' hp => ?_)
  obtain ⟨r1, rfl, rfl, hw⟩ := hp
  refine V_cast [(0, .int p1)] [.int r1] [] [0] [] rfl rfl rfl rfl ?_
  refine V_if_eq hC 18 (by decide) dX0_sizeOfOption_7 (fun c2 => ?_) (fun c2 => ?_)
  · have hw := hw.1 c2
    refine V_iconst hC (-1) dX0_sizeOfOption_18 (by decide) ?_
    exact V_iret hC hr ⟨(-1), rfl, rfl, hw⟩ dX0_sizeOfOption_19
  · have hw := hw.2 c2
    refine V_gets hC wd_330 dX0_sizeOfOption_10 ?_
    refine V_iload_n hC 0 rfl rfl dX0_sizeOfOption_13 ?_
    refine V_sald hC hw.1 dX0_sizeOfOption_14 ?_
    have hw := hw.2
    refine V_goto hC 19 (by decide) dX0_sizeOfOption_15 ?_
    exact V_iret hC hr ⟨segs.getD (Int32.toNatClampNeg p1) 0, rfl, rfl, hw⟩ dX0_sizeOfOption_19
