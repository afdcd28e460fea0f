section NB
variable {g : GD} {Z : ZT} {H0 : Heap} {nL : Nat} {own nm : String} {cc : ByteArray} {rm : Room} {L : List AE} {k n pc : Nat} {lv : List (Option AV)} {st : List AV}
theorem V.icmpN_eq (C : Cx g Z H0 nL own cc nm rm) (x y : Nat) {off : Int} {tgt : Nat} (hd : decode cc pc = .ok (.if_icmp .eq off, 3)) (ht : (pc : Int) + off = (tgt : Int)) (hx : x < 2 ^ 31) (hy : y < 2 ^ 31) (kt : x = y → V g Z H0 nL L k n tgt lv st) (kf : ¬ x = y → V g Z H0 nL L k n (pc + 3) lv st) : V g Z H0 nL L k n pc lv (aI (nI y) :: aI (nI x) :: st) :=
  V.icmp_eq C hd ht (fun h => kt ((nI_eq hx hy).mp h)) (fun h => kf (fun q => h ((nI_eq hx hy).mpr q)))
theorem V.icmpN_ne (C : Cx g Z H0 nL own cc nm rm) (x y : Nat) {off : Int} {tgt : Nat} (hd : decode cc pc = .ok (.if_icmp .ne off, 3)) (ht : (pc : Int) + off = (tgt : Int)) (hx : x < 2 ^ 31) (hy : y < 2 ^ 31) (kt : ¬ x = y → V g Z H0 nL L k n tgt lv st) (kf : x = y → V g Z H0 nL L k n (pc + 3) lv st) : V g Z H0 nL L k n pc lv (aI (nI y) :: aI (nI x) :: st) :=
  V.icmp_ne C hd ht (fun h => kt (fun q => h ((nI_eq hx hy).mpr q))) (fun h => kf ((nI_eq hx hy).mp h))
theorem V.icmpN_lt (C : Cx g Z H0 nL own cc nm rm) (x y : Nat) {off : Int} {tgt : Nat} (hd : decode cc pc = .ok (.if_icmp .lt off, 3)) (ht : (pc : Int) + off = (tgt : Int)) (hx : x < 2 ^ 31) (hy : y < 2 ^ 31) (kt : x < y → V g Z H0 nL L k n tgt lv st) (kf : ¬ x < y → V g Z H0 nL L k n (pc + 3) lv st) : V g Z H0 nL L k n pc lv (aI (nI y) :: aI (nI x) :: st) :=
  V.icmp_lt C hd ht (fun h => kt ((nI_ltI hx hy).mp h)) (fun h => kf (fun q => h ((nI_ltI hx hy).mpr q)))
theorem V.icmpN_ge (C : Cx g Z H0 nL own cc nm rm) (x y : Nat) {off : Int} {tgt : Nat} (hd : decode cc pc = .ok (.if_icmp .ge off, 3)) (ht : (pc : Int) + off = (tgt : Int)) (hx : x < 2 ^ 31) (hy : y < 2 ^ 31) (kt : y ≤ x → V g Z H0 nL L k n tgt lv st) (kf : ¬ y ≤ x → V g Z H0 nL L k n (pc + 3) lv st) : V g Z H0 nL L k n pc lv (aI (nI y) :: aI (nI x) :: st) :=
  V.icmp_ge C hd ht (fun h => kt ((nI_leI hy hx).mp h)) (fun h => kf (fun q => h ((nI_leI hy hx).mpr q)))
theorem V.icmpN_gt (C : Cx g Z H0 nL own cc nm rm) (x y : Nat) {off : Int} {tgt : Nat} (hd : decode cc pc = .ok (.if_icmp .gt off, 3)) (ht : (pc : Int) + off = (tgt : Int)) (hx : x < 2 ^ 31) (hy : y < 2 ^ 31) (kt : y < x → V g Z H0 nL L k n tgt lv st) (kf : ¬ y < x → V g Z H0 nL L k n (pc + 3) lv st) : V g Z H0 nL L k n pc lv (aI (nI y) :: aI (nI x) :: st) :=
  V.icmp_gt C hd ht (fun h => kt ((nI_ltI hy hx).mp h)) (fun h => kf (fun q => h ((nI_ltI hy hx).mpr q)))
theorem V.icmpN_le (C : Cx g Z H0 nL own cc nm rm) (x y : Nat) {off : Int} {tgt : Nat} (hd : decode cc pc = .ok (.if_icmp .le off, 3)) (ht : (pc : Int) + off = (tgt : Int)) (hx : x < 2 ^ 31) (hy : y < 2 ^ 31) (kt : x ≤ y → V g Z H0 nL L k n tgt lv st) (kf : ¬ x ≤ y → V g Z H0 nL L k n (pc + 3) lv st) : V g Z H0 nL L k n pc lv (aI (nI y) :: aI (nI x) :: st) :=
  V.icmp_le C hd ht (fun h => kt ((nI_leI hx hy).mp h)) (fun h => kf (fun q => h ((nI_leI hx hy).mpr q)))
end NB
theorem nsub (a b : Nat) : nI (a + b) - nI a = nI b := by rw [pk_sub (by omega)]; congr 1; omega
