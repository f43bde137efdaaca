/-! no two cells at one place -/
def ndB : List Nat → Bool
  | [] => true
  | a :: l => !(l.any fun b => Nat.beq a b) && ndB l
def offs {β : Type} : List (Nat × Int) → (List Nat → β) → β
  | [], K => K []
  | q :: t, K => frN (off q) fun n => offs t fun l => K (n :: l)
theorem offs_e {β : Type} : ∀ (l : List (Nat × Int)) (K : List Nat → β), offs l K = K (l.map off)
  | [], _ => rfl
  | q :: t, K => by unfold offs; rw [frN_e, offs_e t]; rfl
theorem nd_t : offs scells ndB = true := by decide +kernel
theorem ndB_e : ∀ {l : List Nat}, ndB l = true → l.Nodup
  | [], _ => List.nodup_nil
  | a :: l, h => by
    unfold ndB at h
    rw [Bool.and_eq_true] at h
    refine List.nodup_cons.mpr ⟨fun hm => ?_, ndB_e h.2⟩
    have h1 := h.1
    have : (l.any fun b => Nat.beq a b) = true := List.any_eq_true.mpr ⟨a, hm, Nat.beq_refl a⟩
    rw [this] at h1
    cases h1
theorem off_nd : (scells.map off).Nodup := by
  have h := nd_t
  rw [offs_e] at h
  exact ndB_e h
