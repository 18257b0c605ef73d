/-! CONSTRUCTOR of RopedHalls (laid by wip/whole/gen/gen_cons2.py) -/
def blkc (c n : Nat) : List je_C := (xk c).map (fun k => (c, n, k))
/-- what lies at an id -/
def xF (ad : je_C → Nat) (cA : Nat → ClassId) (q : je_C) : Nat × va_E := (ad q, je_E ad cA je_Gi q.1 q.2.1 q.2.2)
def ids5 : List je_C := (5, 0, 0) :: (5, 0, 6) :: (5, 0, 7) :: (5, 0, 8) :: (((((((((((((blkc 1 0 ++ blkc 4 0) ++ blkc 2 0) ++ ((0, 0, 0) :: ((blkc 1 9 ++ blkc 4 1) ++ blkc 2 1))) ++ blkc 3 0) ++ blkc 1 1) ++ blkc 1 2) ++ blkc 1 3) ++ blkc 1 4) ++ blkc 1 5) ++ blkc 1 6) ++ blkc 1 7) ++ blkc 1 8))
def xad (qf : Nat) (o : Nat → Nat) (hs rs ms : Nat → Nat → Nat) (ps : Nat → Nat) : je_C → Nat := fun q => match q.1 with
  | 0 => qf
  | 1 => hs q.2.1 q.2.2
  | 2 => ms q.2.1 q.2.2
  | 3 => ps q.2.2
  | 4 => rs q.2.1 q.2.2
  | _ => o q.2.2
theorem xb1_eq (ad : je_C → Nat) (cA : Nat → ClassId) (n : Nat) : (blkc 1 n).map (xF ad cA) = xb cA 1 (fun k => ad (1, n, k)) := rfl
theorem xb2_eq (ad : je_C → Nat) (cA : Nat → ClassId) (n : Nat) : (blkc 2 n).map (xF ad cA) = xb cA 2 (fun k => ad (2, n, k)) := rfl
theorem xb3_eq (ad : je_C → Nat) (cA : Nat → ClassId) (n : Nat) : (blkc 3 n).map (xF ad cA) = xb cA 3 (fun k => ad (3, n, k)) := rfl
theorem xb4_eq (ad : je_C → Nat) (cA : Nat → ClassId) (n : Nat) : (blkc 4 n).map (xF ad cA) = xb cA 4 (fun k => ad (4, n, k)) := rfl
