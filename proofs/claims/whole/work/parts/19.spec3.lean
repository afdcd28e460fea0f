abbrev RT : Type := Int32 × Nat × Nat × Nat × Nat × ST
abbrev MQt (L : List AE) (p : RT) : Option AV → List AE → Prop := fun v L' => v = some (aI p.1) ∧ MR p.2.1 p.2.2.1 p.2.2.2.1 p.2.2.2.2.1 p.2.2.2.2.2 L' ∧ FrM L L'
section MS
variable {g : GD} {Z : ZT} {H0 : Heap} {nL : Nat} {own nm : String} {cc : ByteArray} {rm : Room} {L L0 : List AE} {k n pc : Nat} {lv : List (Option AV)} {st : List AV} {r d t b : Nat} {A : ST}
theorem V.iastM (C : Cx g Z H0 nL own cc nm rm) (hM : MR r d t b A L) (hF : FrM L0 L) (j : Nat) (hj : j ∈ mis) (hty : mty j = 0) {N i a : Nat} {x : Int32} (ha : mad j = a) (hN : mln j = N) (hN2 : N < 2 ^ 31) (hd : decode cc pc = .ok (.iastore, 1)) (hi : i < N) (kk : ∀ L' : List AE, MR r d t b (up2 A j i x) L' → FrM L0 L' → V g Z H0 nL L' k n (pc + 1) lv st) : V g Z H0 nL L k n pc lv (aI x :: aI (nI i) :: aR a :: st) := by
  subst ha
  have h := hM.2 j hj
  rw [hty, hN] at h
  have h2 := hM.st j hj i x
  rw [hty, hN] at h2
  have h3 := mad_ok j hj
  exact V.iastN C hd h hi hN2 (kk _ h2 (hF.st (by omega)))
theorem V.zastM (C : Cx g Z H0 nL own cc nm rm) (hM : MR r d t b A L) (hF : FrM L0 L) (j : Nat) (hj : j ∈ mis) (hty : mty j = 1) {N i a : Nat} {x : Int32} (ha : mad j = a) (hN : mln j = N) (hN2 : N < 2 ^ 31) (hx : x = 0 ∨ x = 1) (hd : decode cc pc = .ok (.bastore, 1)) (hi : i < N) (kk : ∀ L' : List AE, MR r d t b (up2 A j i x) L' → FrM L0 L' → V g Z H0 nL L' k n (pc + 1) lv st) : V g Z H0 nL L k n pc lv (aI x :: aI (nI i) :: aR a :: st) := by
  subst ha
  have h := hM.2 j hj
  rw [hty, hN] at h
  have h2 := hM.st j hj i x
  rw [hty, hN] at h2
  have h3 := mad_ok j hj
  exact V.zastN C hd h hi hN2 hx (kk _ h2 (hF.st (by omega)))
end MS
theorem cI_ind {α : Type} {P : α → Prop} {p : Prop} {a b : α} (ha : P a) (hb : P b) : P (cI p a b) := by
  by_cases h : p
  · rw [cI_t h]; exact ha
  · rw [cI_f h]; exact hb
def rmA (A : ST) (r i : Nat) : ST := fun j k => if j = 2 ∧ 8 * r ≤ k ∧ k < 8 * r + i then -1 else if j = 3 ∧ 8 * r ≤ k ∧ k < 8 * r + i then 9 else A j k
theorem rmA_0 (A : ST) (r : Nat) : rmA A r 0 = A := by
  funext j k
  unfold rmA
  rw [if_neg (by omega), if_neg (by omega)]
theorem rmA_s (A : ST) (r i : Nat) : up2 (up2 (rmA A r i) 2 (8 * r + i) (-1)) 3 (8 * r + i) 9 = rmA A r (i + 1) := by
  funext j k
  unfold rmA up2 upd
  by_cases h2 : j = 2
  · subst h2
    by_cases hk : k = 8 * r + i
    · subst hk; simp
    · by_cases h1 : 8 * r ≤ k ∧ k < 8 * r + i
      · simp [hk, h1]; omega
      · simp [hk, h1]; omega
  · by_cases h3 : j = 3
    · subst h3
      by_cases hk : k = 8 * r + i
      · subst hk; simp
      · by_cases h1 : 8 * r ≤ k ∧ k < 8 * r + i
        · simp [hk, h1]; omega
        · simp [hk, h1]; omega
    · simp [h2, h3]
noncomputable def S_room (r d t b : Nat) (A : ST) : RT := cI (r = 20) (-2, r, d, t, b, A) (nI r, r + 1, d, t, b, rmA A r 8)
noncomputable def S_door (r d t b : Nat) (A : ST) (x y : Int32) : RT := ok1 x r (fun i => cI ((y = -1 ∨ isN y r) ∧ ¬ nI i = y) (cI (d = 15) (-2, r, d, t, b, A) (nI d, r, d + 1, t, b, up2 (up2 (up2 A 5 d (nI i)) 6 d y) 7 d (-1))) (-1, r, d, t, b, A)) (-1, r, d, t, b, A)
noncomputable def S_exit (r d t b : Nat) (A : ST) (x y w : Int32) : RT := ok1 x r (fun i => ok1 y 8 (fun j => cI (wOk r d A i w) (A 2 (8 * i + j), r, d, t, b, up2 A 2 (8 * i + j) w) (-1, r, d, t, b, A)) (-1, r, d, t, b, A)) (-1, r, d, t, b, A)
noncomputable def S_width (r d t b : Nat) (A : ST) (x y w : Int32) : RT := ok1 x r (fun i => ok1 y 8 (fun j => cI (1 ≤ w ∧ w ≤ 9) (A 3 (8 * i + j), r, d, t, b, up2 A 3 (8 * i + j) w) (-1, r, d, t, b, A)) (-1, r, d, t, b, A)) (-1, r, d, t, b, A)
noncomputable def S_turn (r d t b : Nat) (A : ST) (x y : Int32) : RT := ok1 x 5 (fun i => ok1 y r (fun j => cI (A 23 i = 4) (-2, r, d, t, b, A) (A 23 i + 1, r, d, t, b, up2 (up2 A 22 (4 * i + (A 23 i).toNatClampNeg) (nI j)) 23 i (A 23 i + 1))) (-1, r, d, t, b, A)) (-1, r, d, t, b, A)
noncomputable def S_region (r d t b : Nat) (A : ST) (x y z : Int32) : RT := ok1 x 7 (fun i => ok1 y r (fun j => (nI (cnt (fun k => up2 A 25 (20 * i + j) z 25 (20 * i + k) = 1) 20), r, d, t, b, up2 A 25 (20 * i + j) z)) (-1, r, d, t, b, A)) (-1, r, d, t, b, A)
noncomputable def S_lock (r d t b : Nat) (A : ST) (x y z : Int32) : RT := ok1 x d (fun j => cI (y = -1) (cI (z = 0) (1, r, d, t, b, up2 (up2 A 7 j y) 9 j z) (-1, r, d, t, b, A)) (ok1 y t (fun k => cI (A 11 k = 0) (1, r, d, t, b, up2 (up2 A 7 j (nI k)) 9 j z) (-1, r, d, t, b, A)) (-1, r, d, t, b, A))) (-1, r, d, t, b, A)
noncomputable def S_thing (r d t b : Nat) (A : ST) (x y z : Int32) : RT := ok1 x r (fun i => ok1 y 4 (fun c => cI (1 ≤ z ∧ z ≤ 9) (cI (t = 30) (-2, r, d, t, b, A) (nI t, r, d, t + 1, b, up2 (up2 (up2 (up2 A 11 t (nI c)) 12 t z) 13 t (nI i)) 14 t (-1))) (-1, r, d, t, b, A)) (-1, r, d, t, b, A)) (-1, r, d, t, b, A)
noncomputable def S_floats (r d t b : Nat) (A : ST) (x y : Int32) : RT := ok1 x t (fun i => cI (A 11 i = 1) (ok1 y 7 (fun j => (1, r, d, t, b, up2 A 14 i (nI j))) (-1, r, d, t, b, A)) (-1, r, d, t, b, A)) (-1, r, d, t, b, A)
noncomputable def S_being (r d t b : Nat) (A : ST) (x : Int32) : RT := ok1 x r (fun i => cI (b = 6) (-2, r, d, t, b, A) (nI b, r, d, t, b + 1, up2 (up2 (up2 A 17 b (nI i)) 18 b (-1)) 19 b (-1))) (-1, r, d, t, b, A)
noncomputable def acA (A : ST) (c j : Nat) : ST := cI (c < 2) (up2 A 8 j (b2 (c = 0))) (up2 A 9 j (b2 (c = 2)))
noncomputable def S_act (r d t b : Nat) (A : ST) (x y z : Int32) : RT := ok1 x b (fun w => ok1 y 4 (fun c => ok1 z d (fun j => cI (atT A d w c j = 0) (1, r, d, t, b, acA A c j) (-(atT A d w c j), r, d, t, b, A)) (-1, r, d, t, b, A)) (-1, r, d, t, b, A)) (-1, r, d, t, b, A)
noncomputable def hdA (A : ST) (w c i : Nat) : ST := cI (c = 0) (up2 A 13 i (nI (100 + w))) (cI (c = 1) (up2 A 13 i (A 17 w)) (cI (c = 2) (up2 A 18 w (nI i)) (up2 A 15 i (b2 (c = 4)))))
noncomputable def S_handle (r d t b : Nat) (A : ST) (x y z : Int32) : RT := ok1 x b (fun w => ok1 y 5 (fun c => ok1 z t (fun i => cI (hdT A t w c i = 0) (1, r, d, t, b, hdA A w c i) (-(hdT A t w c i), r, d, t, b, A)) (-1, r, d, t, b, A)) (-1, r, d, t, b, A)) (-1, r, d, t, b, A)
noncomputable def S_leave (r d t b : Nat) (A : ST) (x : Int32) : RT := ok1 x b (fun w => cI (A 18 w = -1) (-23, r, d, t, b, A) (cI (shIn A w) (-21, r, d, t, b, A) (1, r, d, t, b, up2 A 18 w (-1)))) (-1, r, d, t, b, A)
def nng (x : Int32) : Prop := x = 0 ∨ 0 < x
theorem atT_nn (A : ST) (d w c j : Nat) : nng (atT A d w c j) := by
  unfold atT
  refine cI_ind (P := nng) (cI_ind (P := nng) (cI_ind (P := nng) (Or.inr (by decide)) (cI_ind (P := nng) (Or.inr (by decide)) (Or.inl rfl))) (cI_ind (P := nng) (Or.inr (by decide)) (cI_ind (P := nng) (Or.inr (by decide)) (cI_ind (P := nng) (Or.inl rfl) (cI_ind (P := nng) (Or.inr (by decide)) (Or.inr (by decide))))))) (Or.inr (by decide))
theorem hdT_nn (A : ST) (t w c i : Nat) : nng (hdT A t w c i) := by
  unfold hdT
  refine cI_ind (P := nng) (cI_ind (P := nng) (Or.inl rfl) (Or.inr (by decide))) (cI_ind (P := nng) (cI_ind (P := nng) (cI_ind (P := nng) (Or.inr (by decide)) (cI_ind (P := nng) (cI_ind (P := nng) (Or.inr (by decide)) (Or.inl rfl)) (Or.inr (by decide)))) (cI_ind (P := nng) (cI_ind (P := nng) (cI_ind (P := nng) (cI_ind (P := nng) (Or.inr (by decide)) (Or.inl rfl)) (Or.inr (by decide))) (Or.inr (by decide))) (cI_ind (P := nng) (cI_ind (P := nng) (Or.inr (by decide)) (Or.inl rfl)) (Or.inr (by decide))))) (Or.inr (by decide)))
theorem nng_le {x : Int32} (h : nng x) : x ≤ 0 ↔ x = 0 := by
  rcases h with h | h
  · rw [h]; exact ⟨fun _ => rfl, fun _ => by decide⟩
  · constructor
    · intro q; exact absurd h (Int32.not_lt.mpr q)
    · intro q; rw [q] at h; exact absurd h (by decide)
