theorem in_X0 : ∀ w ∈ u_ws RX0 TX0 7, w ∈ gt := by
  intro w hw
  obtain ⟨k, hk, rfl⟩ := List.mem_map.mp hw
  rw [List.mem_range] at hk
  match k, hk with
  | 0, _ => exact gt_mem 321 (by decide +kernel) (by decide +kernel)
  | 1, _ => exact gt_mem 323 (by decide +kernel) (by decide +kernel)
  | 2, _ => exact gt_mem 325 (by decide +kernel) (by decide +kernel)
  | 3, _ => exact gt_mem 327 (by decide +kernel) (by decide +kernel)
  | 4, _ => exact gt_mem 329 (by decide +kernel) (by decide +kernel)
  | 5, _ => exact gt_mem 331 (by decide +kernel) (by decide +kernel)
  | 6, _ => exact gt_mem 333 (by decide +kernel) (by decide +kernel)
  | k + 7, hk => exact absurd hk (by omega)
theorem in_X1 : ∀ w ∈ u_ws RX1 TX1 5, w ∈ gt := by
  intro w hw
  obtain ⟨k, hk, rfl⟩ := List.mem_map.mp hw
  rw [List.mem_range] at hk
  match k, hk with
  | 0, _ => exact gt_mem 186 (by decide +kernel) (by decide +kernel)
  | 1, _ => exact gt_mem 188 (by decide +kernel) (by decide +kernel)
  | 2, _ => exact gt_mem 190 (by decide +kernel) (by decide +kernel)
  | 3, _ => exact gt_mem 192 (by decide +kernel) (by decide +kernel)
  | 4, _ => exact gt_mem 194 (by decide +kernel) (by decide +kernel)
  | k + 5, hk => exact absurd hk (by omega)
theorem in_X2 : ∀ w ∈ u_ws RX2 TX2 3, w ∈ gt := by
  intro w hw
  obtain ⟨k, hk, rfl⟩ := List.mem_map.mp hw
  rw [List.mem_range] at hk
  match k, hk with
  | 0, _ => exact gt_mem 117 (by decide +kernel) (by decide +kernel)
  | 1, _ => exact gt_mem 119 (by decide +kernel) (by decide +kernel)
  | 2, _ => exact gt_mem 121 (by decide +kernel) (by decide +kernel)
  | k + 3, hk => exact absurd hk (by omega)
theorem in_X3 : ∀ w ∈ u_ws RX3 TX3 5, w ∈ gt := by
  intro w hw
  obtain ⟨k, hk, rfl⟩ := List.mem_map.mp hw
  rw [List.mem_range] at hk
  match k, hk with
  | 0, _ => exact gt_mem 93 (by decide +kernel) (by decide +kernel)
  | 1, _ => exact gt_mem 95 (by decide +kernel) (by decide +kernel)
  | 2, _ => exact gt_mem 97 (by decide +kernel) (by decide +kernel)
  | 3, _ => exact gt_mem 99 (by decide +kernel) (by decide +kernel)
  | 4, _ => exact gt_mem 101 (by decide +kernel) (by decide +kernel)
  | k + 5, hk => exact absurd hk (by omega)
theorem in_X4 : ∀ w ∈ u_ws RX4 TX4 7, w ∈ gt := by
  intro w hw
  obtain ⟨k, hk, rfl⟩ := List.mem_map.mp hw
  rw [List.mem_range] at hk
  match k, hk with
  | 0, _ => exact gt_mem 281 (by decide +kernel) (by decide +kernel)
  | 1, _ => exact gt_mem 283 (by decide +kernel) (by decide +kernel)
  | 2, _ => exact gt_mem 285 (by decide +kernel) (by decide +kernel)
  | 3, _ => exact gt_mem 287 (by decide +kernel) (by decide +kernel)
  | 4, _ => exact gt_mem 289 (by decide +kernel) (by decide +kernel)
  | 5, _ => exact gt_mem 291 (by decide +kernel) (by decide +kernel)
  | 6, _ => exact gt_mem 293 (by decide +kernel) (by decide +kernel)
  | k + 7, hk => exact absurd hk (by omega)
theorem in_X5 : ∀ w ∈ u_ws RX5 TX5 12, w ∈ gt := by
  intro w hw
  obtain ⟨k, hk, rfl⟩ := List.mem_map.mp hw
  rw [List.mem_range] at hk
  match k, hk with
  | 0, _ => exact gt_mem 136 (by decide +kernel) (by decide +kernel)
  | 1, _ => exact gt_mem 138 (by decide +kernel) (by decide +kernel)
  | 2, _ => exact gt_mem 140 (by decide +kernel) (by decide +kernel)
  | 3, _ => exact gt_mem 142 (by decide +kernel) (by decide +kernel)
  | 4, _ => exact gt_mem 144 (by decide +kernel) (by decide +kernel)
  | 5, _ => exact gt_mem 146 (by decide +kernel) (by decide +kernel)
  | 6, _ => exact gt_mem 148 (by decide +kernel) (by decide +kernel)
  | 7, _ => exact gt_mem 150 (by decide +kernel) (by decide +kernel)
  | 8, _ => exact gt_mem 152 (by decide +kernel) (by decide +kernel)
  | 9, _ => exact gt_mem 154 (by decide +kernel) (by decide +kernel)
  | 10, _ => exact gt_mem 156 (by decide +kernel) (by decide +kernel)
  | 11, _ => exact gt_mem 158 (by decide +kernel) (by decide +kernel)
  | k + 12, hk => exact absurd hk (by omega)
theorem in_X6 : ∀ w ∈ u_ws RX6 TX6 27, w ∈ gt := by
  intro w hw
  obtain ⟨k, hk, rfl⟩ := List.mem_map.mp hw
  rw [List.mem_range] at hk
  match k, hk with
  | 0, _ => exact gt_mem 594 (by decide +kernel) (by decide +kernel)
  | 1, _ => exact gt_mem 596 (by decide +kernel) (by decide +kernel)
  | 2, _ => exact gt_mem 598 (by decide +kernel) (by decide +kernel)
  | 3, _ => exact gt_mem 600 (by decide +kernel) (by decide +kernel)
  | 4, _ => exact gt_mem 602 (by decide +kernel) (by decide +kernel)
  | 5, _ => exact gt_mem 604 (by decide +kernel) (by decide +kernel)
  | 6, _ => exact gt_mem 606 (by decide +kernel) (by decide +kernel)
  | 7, _ => exact gt_mem 608 (by decide +kernel) (by decide +kernel)
  | 8, _ => exact gt_mem 610 (by decide +kernel) (by decide +kernel)
  | 9, _ => exact gt_mem 612 (by decide +kernel) (by decide +kernel)
  | 10, _ => exact gt_mem 614 (by decide +kernel) (by decide +kernel)
  | 11, _ => exact gt_mem 616 (by decide +kernel) (by decide +kernel)
  | 12, _ => exact gt_mem 618 (by decide +kernel) (by decide +kernel)
  | 13, _ => exact gt_mem 620 (by decide +kernel) (by decide +kernel)
  | 14, _ => exact gt_mem 622 (by decide +kernel) (by decide +kernel)
  | 15, _ => exact gt_mem 624 (by decide +kernel) (by decide +kernel)
  | 16, _ => exact gt_mem 626 (by decide +kernel) (by decide +kernel)
  | 17, _ => exact gt_mem 628 (by decide +kernel) (by decide +kernel)
  | 18, _ => exact gt_mem 630 (by decide +kernel) (by decide +kernel)
  | 19, _ => exact gt_mem 632 (by decide +kernel) (by decide +kernel)
  | 20, _ => exact gt_mem 634 (by decide +kernel) (by decide +kernel)
  | 21, _ => exact gt_mem 636 (by decide +kernel) (by decide +kernel)
  | 22, _ => exact gt_mem 638 (by decide +kernel) (by decide +kernel)
  | 23, _ => exact gt_mem 640 (by decide +kernel) (by decide +kernel)
  | 24, _ => exact gt_mem 642 (by decide +kernel) (by decide +kernel)
  | 25, _ => exact gt_mem 644 (by decide +kernel) (by decide +kernel)
  | 26, _ => exact gt_mem 646 (by decide +kernel) (by decide +kernel)
  | k + 27, hk => exact absurd hk (by omega)
theorem xcl_ok {ci : Nat} {q : vw_C} (h : xcl[ci]? = some q) : (∀ w ∈ u_ws q.1 q.2.1 q.2.2, w ∈ gt) ∧ (∃ ty : Nat → FieldType, ∀ k, k < q.2.2 → parseFieldDescriptor (q.2.1 k).2.2.1 = some (ty k)) ∧ (∀ a, a < q.2.2 → ∀ b, b < q.2.2 → a ≠ b → (q.2.1 a).2.1 ≠ (q.2.1 b).2.1) := by
  match ci, h with
  | 0, h => cases h; exact ⟨in_X0, ⟨tyX0, tyX0_ok⟩, nmX0⟩
  | 1, h => cases h; exact ⟨in_X1, ⟨tyX1, tyX1_ok⟩, nmX1⟩
  | 2, h => cases h; exact ⟨in_X2, ⟨tyX2, tyX2_ok⟩, nmX2⟩
  | 3, h => cases h; exact ⟨in_X3, ⟨tyX3, tyX3_ok⟩, nmX3⟩
  | 4, h => cases h; exact ⟨in_X4, ⟨tyX4, tyX4_ok⟩, nmX4⟩
  | 5, h => cases h; exact ⟨in_X5, ⟨tyX5, tyX5_ok⟩, nmX5⟩
  | 6, h => cases h; exact ⟨in_X6, ⟨tyX6, tyX6_ok⟩, nmX6⟩
  | i + 7, h => simp [xcl] at h
