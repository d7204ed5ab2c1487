/-! the law's loop, and the start -/
theorem law_run {L : Nat} {xs : Nat → Int32} (hL : L ≤ 2560) : ∀ (n B : Nat), B + n = 513 → B ≤ 512 → ∀ (ec : Nat → Int32) (a0 : Nat → Nat) (n0 : Nat → Int32) (r0 : Nat → Nat → Int32) (s : Int32) (a1 : Nat → Nat) (n1 : Nat → Int32) (r1 : Nat → Nat → Int32) (a2 : Nat → Nat) (n2 : Nat → Int32) (r2 : Nat → Nat → Int32) (a3 : Nat → Nat) (n3 : Nat → Int32) (r3 : Nat → Nat → Int32) (f g : Nat → Int32) (sm : Int32) (em : Nat → Int32) (hh : Int64), Inv B ec n0 r0 s n1 r1 n2 r2 n3 r3 f g sm em → wpl_law L xs n (nI (5 * B)) ec a0 n0 r0 s a1 n1 r1 a2 n2 r2 a3 n3 r3 f g sm em hh := by
  intro n
  induction n with
  | zero => intro B h1 h2; omega
  | succ n ih =>
    intro B h1 h2 ec a0 n0 r0 s a1 n1 r1 a2 n2 r2 a3 n3 r3 f g sm em hh hI
    rw [wpl_law]
    have hcmp : Int32.ofNat L - 5 < nI (5 * B) ↔ (L : Int) - 5 < (5 * B : Nat) := by
      rw [Int32.lt_iff_toInt_lt, nI_toInt (by omega)]
      have : (Int32.ofNat L - 5).toInt = (L : Int) - (5 : Nat) := pk_sub_toInt (a := L) (b := 5) (by omega) (by decide)
      rw [this]
      omega
    by_cases hlt : Int32.ofNat L - 5 < nI (5 * B)
    · exact Or.inl hlt
    · have hr : 5 * B + 5 ≤ L := by rw [hcmp] at hlt; omega
      have hB : B ≤ 600 := by omega
      have hv1 : vp_in (nI (5 * B) + 1) L := by rw [nI_1]; exact vp_in_nI (by omega) (by omega)
      have hv2 : vp_in (nI (5 * B) + 2) L := by rw [show (2 : Int32) = nI 2 from rfl, nI_add]; exact vp_in_nI (by omega) (by omega)
      have hv3 : vp_in (nI (5 * B) + 3) L := by rw [show (3 : Int32) = nI 3 from rfl, nI_add]; exact vp_in_nI (by omega) (by omega)
      have hv4 : vp_in (nI (5 * B) + 4) L := by rw [show (4 : Int32) = nI 4 from rfl, nI_add]; exact vp_in_nI (by omega) (by omega)
      have e5 : nI (5 * B) + 5 = nI (5 * (B + 1)) := by rw [show (5 : Int32) = nI 5 from rfl, nI_add, Nat.mul_succ]
      have hJ : Goes9 B (nI (5 * B) + 5) (wpl_law L xs n) := fun ec a0 n0 r0 s a1 n1 r1 a2 n2 r2 a3 n3 r3 f g sm em hh h9 => by
        rw [e5]
        exact ih (B + 1) (by omega) (by omega) ec a0 n0 r0 s a1 n1 r1 a2 n2 r2 a3 n3 r3 f g sm em hh h9
      refine Or.inr ⟨hlt, vp_in_nI (by omega) (by omega), fun _ => cs_advance hB hv1 hI hJ, fun _ => cs_rotateKey hv1 hI hJ, fun _ => cs_open hB hv1 hv2 hv3 hI hJ, fun _ => cs_accept hB hv1 hv2 hv3 hv4 hI hJ, fun _ => cs_close hv1 hv2 hI hJ, fun _ => cs_segmentSize hv1 hv2 hI hJ, fun _ => cs_connections hI hJ, fun _ => cs_halfOpen hI hJ, fun _ => cs_entryAge hB hv1 hv2 hI hJ, fun _ => cs_remembered hI hJ, fun _ => cs_epoch hI hJ, fun _ => cs_load hI hJ, fun _ => cs_difficulty hB hI hJ, fun _ => cs_solve hv1 hv2 hv3 hI hJ, fun _ => cs_cookieAge hB hv1 hI hJ, fun _ => cs_cookieSize hv1 hI hJ, fun _ => cs_work hI hJ, fun _ => cs_request hv1 hv2 hI hJ, fun _ => cs_serve hB hv1 hI hJ, fun _ => cs_queued hv1 hI hJ, fun _ => cs_credit hv1 hI hJ, fun _ => cs_served hv1 hI hJ, fun _ => cs_shareBits hB hv1 hI hJ, fun _ => cs_undo hI hJ, fun _ => cs_errorCount hv1 hI hJ, fun _ => cs_digest hB hI hJ, fun _ => ?_⟩
      exact hJ ec a0 n0 r0 s a1 n1 r1 a2 n2 r2 a3 n3 r3 f g sm em hh hI.up
theorem f_init_at {j : Nat} (h1 : j ≠ 1) (h2 : j ≠ 2) : f_init j = 0 := by
  unfold f_init
  rw [pk_un h2, pk_un h1]
theorem sim_init : Sim 0 n_init (fun _ _ => 0) f_init := by
  have z : ∀ j : Nat, j ≠ 1 → j ≠ 2 → f_init j = nI 0 := fun j a b => f_init_at a b
  have hc0 : cntP (fun _ => 0) = 0 := fb_ct_zero.mpr (fun _ _ => rfl)
  refine ⟨0, 1, fun _ => 0, fun _ => 0, fun _ => 0, fun _ => 0, fun _ => 0, fun _ => 0, [], [], 0, 0, ⟨by omega, rfl, z 0 (by decide) (by decide)⟩, ⟨by decide, rfl, rfl⟩, ⟨Or.inl rfl, rfl⟩, ?_, ⟨fun _ _ => rfl, fun j _ => z _ (by omega) (by omega), by decide⟩, ⟨fun j e h => by simp at h, rfl, ⟨z 3 (by decide) (by decide), fun j e h => by simp at h⟩, ⟨by decide, fun i j e d h => by simp at h, fun e h => by simp at h⟩, fun e h => by simp at h⟩, ⟨fun _ _ => rfl, fun j _ => z _ (by omega) (by omega), fun _ _ => Nat.zero_le _, ?_, by rw [hc0]; decide⟩, ⟨fun j e h => by simp at h, rfl, ⟨z 4 (by decide) (by decide), fun j e h => by simp at h⟩, by decide, fun e h => by simp at h⟩, ⟨⟨fun _ _ => rfl, fun _ _ _ h => absurd h (Nat.not_lt_zero _), fun _ _ => rfl, fun _ _ => rfl, ?_, rfl, rfl⟩, ⟨fun i _ => z _ (by omega) (by omega), fun _ _ _ h => absurd h (Nat.not_lt_zero _), fun i _ => z _ (by omega) (by omega), fun i _ => z _ (by omega) (by omega), z 6 (by decide) (by decide), z 7 (by decide) (by decide)⟩, ⟨fun _ _ => Nat.zero_le _, fun _ _ _ h => absurd h (Nat.not_lt_zero _), fun _ _ => Nat.zero_le _, fun _ _ _ => Nat.zero_le _, by decide, by decide, fun _ _ => Nat.two_pow_pos 28⟩, by decide⟩⟩
  · rw [z 5 (by decide) (by decide)]; rfl
  · rw [hc0]; rfl
  · have : fb_sm (fun _ => 0) 16 = 0 := by decide
    rw [this]; rfl
theorem pure_main {L : Nat} {xs : Nat → Int32} (hL : L ≤ 2560) : PureMain L xs := fun a0 a1 a2 a3 =>
  ⟨513, law_run hL 513 0 (by decide) (by decide) (fun _ => 0) a0 n_init (fun _ _ => 0) 0 a1 n_init (fun _ _ => 0) a2 n_init (fun _ _ => 0) a3 n_init (fun _ _ => 0) f_init (fun _ => 0) 0 (fun _ => 0) 0 ⟨0, by decide, rfl, rfl, fun _ _ => rfl, sim_init, fun x => absurd x (by decide), fun x => absurd x (by decide), fun x => absurd x (by decide)⟩⟩
