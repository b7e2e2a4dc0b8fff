/-! PURE 9z: how both begin -/
theorem sim_none : ∀ (n : Nat) (g : GC) (md : MD), n < 512 → Sim n g md → Sim (n + 1) g md := fun _ _ _ _ h => h.next
theorem xf_m1 : ∀ j, j < 150 → xf j = -1 := by
  obtain ⟨y, h1, h2⟩ := fill_c (n := 150) (by omega) z32 (-1)
  intro j hj
  unfold xf
  rw [h1]
  exact h2 j hj
theorem sim_newX {x : Nat → Int32} (hx : ∀ j, j < 150 → x j = -1) : Sim 0 (GC0 x) MD0 := by
  have hR : RC (aE (fun _ => 0)) (HS0 x) := by
    refine ⟨⟨rfl, rfl, rfl, rfl, rfl⟩, ⟨rfl, fun s hs => ⟨fun q => absurd q (Nat.not_lt_zero s), rfl, ?_⟩⟩, ⟨rfl, fun c hc => absurd hc (Nat.not_lt_zero c)⟩, fun c s hc hs => ?_, fun f hf => ⟨rfl, fun z => absurd rfl z, (fun z => absurd (show (0 : Nat) = 2 from z) (by decide)), rfl, fun k k4 hk => absurd hk (Nat.not_lt_zero k)⟩⟩
    · show (0 : Int32) = nI (if s < 0 then 1 else 0)
      rw [if_neg (by omega)]
      rfl
    · show x (5 * c + s) = -1
      exact hx _ (by omega)
  have hM : RM (aE (fun _ => 0)) z64 := RM.E (x := fun _ => 0) (by omega) rfl (fun k hk => rfl) (fun j _ _ => rfl)
  have hA : AI (7 * 0) (aE (fun _ => 0)) := AI.E _ (by omega) (by omega) (by omega) (by omega) (by omega) rfl rfl
  refine ⟨aE (fun _ => 0), 0, fun _ => aE (fun _ => 0), fun _ => none, ⟨hR, hM, hA, Or.inl ⟨rfl, rfl, rfl, fun f hf => rfl⟩⟩, ⟨⟨0, by omega, rfl, rfl, by omega, fun j hj => by omega⟩, ⟨rfl, by omega, fun j hj => by omega⟩, fun j hj => by omega⟩, fun k hk => ⟨rfl, rfl⟩, ⟨0, fun _ => 0, by omega, rfl, rfl, fun j hj => by omega⟩, rfl, fun _ => ⟨rfl, fun k hk => rfl⟩⟩
theorem sim_new : Sim 0 (GC0 xf) MD0 := sim_newX xf_m1
