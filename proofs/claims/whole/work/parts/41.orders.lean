/-! orders, one after another as a dictionary has them -/
def lg (l : List Nat) (i : Nat) : Nat := l.getD i 0
def riF (l : List Nat) : Nat → Option Nat
  | 0 => none
  | k + 1 => bif Nat.ble (lg l k) (lg l (k + 1)) then some k else riF l k
def abF (l : List Nat) (r : Nat) : Nat → Nat
  | 0 => 0
  | k + 1 => bif Nat.ble (lg l r) (lg l (k + 1)) then k + 1 else abF l r k
def swF (l : List Nat) (a b : Nat) : List Nat := (l.set a (lg l b)).set b (lg l a)
def rvF : Nat → List Nat → Nat → Nat → List Nat
  | 0, l, _, _ => l
  | f + 1, l, a, b => bif Nat.blt a b then rvF f (swF l a b) (a + 1) (b - 1) else l
def nxF (n : Nat) (l : List Nat) : Option (List Nat) := match riF l (n - 1) with
  | none => none
  | some r => some (rvF n (swF l r (abF l r (n - 1))) (r + 1) (n - 1))
def fcN (x : Nat) (k : Nat → Option (List Nat)) : Option (List Nat) := match x with
  | 0 => k 0
  | m + 1 => k (m + 1)
def fcL : List Nat → (List Nat → Option (List Nat)) → Option (List Nat)
  | [], k => k []
  | x :: xs, k => fcN x (fun y => fcL xs (fun ys => k (y :: ys)))
def itC (n : Nat) : Nat → List Nat → Option (List Nat)
  | 0, l => some l
  | f + 1, l => match nxF n l with
    | none => none
    | some l2 => fcL l2 (itC n f)

theorem oe_0 : nxF 0 [] = none := by decide +kernel
theorem oe_1 : nxF 1 [0] = none := by decide +kernel
theorem oc_2_0 : itC 2 1 [0, 1] = some [1, 0] := by decide +kernel
theorem oe_2 : nxF 2 [1, 0] = none := by decide +kernel
theorem oc_3_0 : itC 3 5 [0, 1, 2] = some [2, 1, 0] := by decide +kernel
theorem oe_3 : nxF 3 [2, 1, 0] = none := by decide +kernel
theorem oc_4_0 : itC 4 23 [0, 1, 2, 3] = some [3, 2, 1, 0] := by decide +kernel
theorem oe_4 : nxF 4 [3, 2, 1, 0] = none := by decide +kernel
theorem oc_5_0 : itC 5 60 [0, 1, 2, 3, 4] = some [2, 3, 0, 1, 4] := by decide +kernel
theorem oc_5_1 : itC 5 59 [2, 3, 0, 1, 4] = some [4, 3, 2, 1, 0] := by decide +kernel
theorem oe_5 : nxF 5 [4, 3, 2, 1, 0] = none := by decide +kernel
theorem oc_6_0 : itC 6 60 [0, 1, 2, 3, 4, 5] = some [0, 3, 4, 1, 2, 5] := by decide +kernel
theorem oc_6_1 : itC 6 60 [0, 3, 4, 1, 2, 5] = some [1, 0, 2, 3, 4, 5] := by decide +kernel
theorem oc_6_2 : itC 6 60 [1, 0, 2, 3, 4, 5] = some [1, 3, 4, 0, 2, 5] := by decide +kernel
theorem oc_6_3 : itC 6 60 [1, 3, 4, 0, 2, 5] = some [2, 0, 1, 3, 4, 5] := by decide +kernel
theorem oc_6_4 : itC 6 60 [2, 0, 1, 3, 4, 5] = some [2, 3, 4, 0, 1, 5] := by decide +kernel
theorem oc_6_5 : itC 6 60 [2, 3, 4, 0, 1, 5] = some [3, 0, 1, 2, 4, 5] := by decide +kernel
theorem oc_6_6 : itC 6 60 [3, 0, 1, 2, 4, 5] = some [3, 2, 4, 0, 1, 5] := by decide +kernel
theorem oc_6_7 : itC 6 60 [3, 2, 4, 0, 1, 5] = some [4, 0, 1, 2, 3, 5] := by decide +kernel
theorem oc_6_8 : itC 6 60 [4, 0, 1, 2, 3, 5] = some [4, 2, 3, 0, 1, 5] := by decide +kernel
theorem oc_6_9 : itC 6 60 [4, 2, 3, 0, 1, 5] = some [5, 0, 1, 2, 3, 4] := by decide +kernel
theorem oc_6_10 : itC 6 60 [5, 0, 1, 2, 3, 4] = some [5, 2, 3, 0, 1, 4] := by decide +kernel
theorem oc_6_11 : itC 6 59 [5, 2, 3, 0, 1, 4] = some [5, 4, 3, 2, 1, 0] := by decide +kernel
theorem oe_6 : nxF 6 [5, 4, 3, 2, 1, 0] = none := by decide +kernel
theorem oc_7_0 : itC 7 60 [0, 1, 2, 3, 4, 5, 6] = some [0, 1, 4, 5, 2, 3, 6] := by decide +kernel
theorem oc_7_1 : itC 7 60 [0, 1, 4, 5, 2, 3, 6] = some [0, 2, 1, 3, 4, 5, 6] := by decide +kernel
theorem oc_7_2 : itC 7 60 [0, 2, 1, 3, 4, 5, 6] = some [0, 2, 4, 5, 1, 3, 6] := by decide +kernel
theorem oc_7_3 : itC 7 60 [0, 2, 4, 5, 1, 3, 6] = some [0, 3, 1, 2, 4, 5, 6] := by decide +kernel
theorem oc_7_4 : itC 7 60 [0, 3, 1, 2, 4, 5, 6] = some [0, 3, 4, 5, 1, 2, 6] := by decide +kernel
theorem oc_7_5 : itC 7 60 [0, 3, 4, 5, 1, 2, 6] = some [0, 4, 1, 2, 3, 5, 6] := by decide +kernel
theorem oc_7_6 : itC 7 60 [0, 4, 1, 2, 3, 5, 6] = some [0, 4, 3, 5, 1, 2, 6] := by decide +kernel
theorem oc_7_7 : itC 7 60 [0, 4, 3, 5, 1, 2, 6] = some [0, 5, 1, 2, 3, 4, 6] := by decide +kernel
theorem oc_7_8 : itC 7 60 [0, 5, 1, 2, 3, 4, 6] = some [0, 5, 3, 4, 1, 2, 6] := by decide +kernel
theorem oc_7_9 : itC 7 60 [0, 5, 3, 4, 1, 2, 6] = some [0, 6, 1, 2, 3, 4, 5] := by decide +kernel
theorem oc_7_10 : itC 7 60 [0, 6, 1, 2, 3, 4, 5] = some [0, 6, 3, 4, 1, 2, 5] := by decide +kernel
theorem oc_7_11 : itC 7 60 [0, 6, 3, 4, 1, 2, 5] = some [1, 0, 2, 3, 4, 5, 6] := by decide +kernel
theorem oc_7_12 : itC 7 60 [1, 0, 2, 3, 4, 5, 6] = some [1, 0, 4, 5, 2, 3, 6] := by decide +kernel
theorem oc_7_13 : itC 7 60 [1, 0, 4, 5, 2, 3, 6] = some [1, 2, 0, 3, 4, 5, 6] := by decide +kernel
theorem oc_7_14 : itC 7 60 [1, 2, 0, 3, 4, 5, 6] = some [1, 2, 4, 5, 0, 3, 6] := by decide +kernel
theorem oc_7_15 : itC 7 60 [1, 2, 4, 5, 0, 3, 6] = some [1, 3, 0, 2, 4, 5, 6] := by decide +kernel
theorem oc_7_16 : itC 7 60 [1, 3, 0, 2, 4, 5, 6] = some [1, 3, 4, 5, 0, 2, 6] := by decide +kernel
theorem oc_7_17 : itC 7 60 [1, 3, 4, 5, 0, 2, 6] = some [1, 4, 0, 2, 3, 5, 6] := by decide +kernel
theorem oc_7_18 : itC 7 60 [1, 4, 0, 2, 3, 5, 6] = some [1, 4, 3, 5, 0, 2, 6] := by decide +kernel
theorem oc_7_19 : itC 7 60 [1, 4, 3, 5, 0, 2, 6] = some [1, 5, 0, 2, 3, 4, 6] := by decide +kernel
theorem oc_7_20 : itC 7 60 [1, 5, 0, 2, 3, 4, 6] = some [1, 5, 3, 4, 0, 2, 6] := by decide +kernel
theorem oc_7_21 : itC 7 60 [1, 5, 3, 4, 0, 2, 6] = some [1, 6, 0, 2, 3, 4, 5] := by decide +kernel
theorem oc_7_22 : itC 7 60 [1, 6, 0, 2, 3, 4, 5] = some [1, 6, 3, 4, 0, 2, 5] := by decide +kernel
theorem oc_7_23 : itC 7 60 [1, 6, 3, 4, 0, 2, 5] = some [2, 0, 1, 3, 4, 5, 6] := by decide +kernel
theorem oc_7_24 : itC 7 60 [2, 0, 1, 3, 4, 5, 6] = some [2, 0, 4, 5, 1, 3, 6] := by decide +kernel
theorem oc_7_25 : itC 7 60 [2, 0, 4, 5, 1, 3, 6] = some [2, 1, 0, 3, 4, 5, 6] := by decide +kernel
theorem oc_7_26 : itC 7 60 [2, 1, 0, 3, 4, 5, 6] = some [2, 1, 4, 5, 0, 3, 6] := by decide +kernel
theorem oc_7_27 : itC 7 60 [2, 1, 4, 5, 0, 3, 6] = some [2, 3, 0, 1, 4, 5, 6] := by decide +kernel
theorem oc_7_28 : itC 7 60 [2, 3, 0, 1, 4, 5, 6] = some [2, 3, 4, 5, 0, 1, 6] := by decide +kernel
theorem oc_7_29 : itC 7 60 [2, 3, 4, 5, 0, 1, 6] = some [2, 4, 0, 1, 3, 5, 6] := by decide +kernel
theorem oc_7_30 : itC 7 60 [2, 4, 0, 1, 3, 5, 6] = some [2, 4, 3, 5, 0, 1, 6] := by decide +kernel
theorem oc_7_31 : itC 7 60 [2, 4, 3, 5, 0, 1, 6] = some [2, 5, 0, 1, 3, 4, 6] := by decide +kernel
theorem oc_7_32 : itC 7 60 [2, 5, 0, 1, 3, 4, 6] = some [2, 5, 3, 4, 0, 1, 6] := by decide +kernel
theorem oc_7_33 : itC 7 60 [2, 5, 3, 4, 0, 1, 6] = some [2, 6, 0, 1, 3, 4, 5] := by decide +kernel
theorem oc_7_34 : itC 7 60 [2, 6, 0, 1, 3, 4, 5] = some [2, 6, 3, 4, 0, 1, 5] := by decide +kernel
theorem oc_7_35 : itC 7 60 [2, 6, 3, 4, 0, 1, 5] = some [3, 0, 1, 2, 4, 5, 6] := by decide +kernel
theorem oc_7_36 : itC 7 60 [3, 0, 1, 2, 4, 5, 6] = some [3, 0, 4, 5, 1, 2, 6] := by decide +kernel
theorem oc_7_37 : itC 7 60 [3, 0, 4, 5, 1, 2, 6] = some [3, 1, 0, 2, 4, 5, 6] := by decide +kernel
theorem oc_7_38 : itC 7 60 [3, 1, 0, 2, 4, 5, 6] = some [3, 1, 4, 5, 0, 2, 6] := by decide +kernel
theorem oc_7_39 : itC 7 60 [3, 1, 4, 5, 0, 2, 6] = some [3, 2, 0, 1, 4, 5, 6] := by decide +kernel
theorem oc_7_40 : itC 7 60 [3, 2, 0, 1, 4, 5, 6] = some [3, 2, 4, 5, 0, 1, 6] := by decide +kernel
theorem oc_7_41 : itC 7 60 [3, 2, 4, 5, 0, 1, 6] = some [3, 4, 0, 1, 2, 5, 6] := by decide +kernel
theorem oc_7_42 : itC 7 60 [3, 4, 0, 1, 2, 5, 6] = some [3, 4, 2, 5, 0, 1, 6] := by decide +kernel
theorem oc_7_43 : itC 7 60 [3, 4, 2, 5, 0, 1, 6] = some [3, 5, 0, 1, 2, 4, 6] := by decide +kernel
theorem oc_7_44 : itC 7 60 [3, 5, 0, 1, 2, 4, 6] = some [3, 5, 2, 4, 0, 1, 6] := by decide +kernel
theorem oc_7_45 : itC 7 60 [3, 5, 2, 4, 0, 1, 6] = some [3, 6, 0, 1, 2, 4, 5] := by decide +kernel
theorem oc_7_46 : itC 7 60 [3, 6, 0, 1, 2, 4, 5] = some [3, 6, 2, 4, 0, 1, 5] := by decide +kernel
theorem oc_7_47 : itC 7 60 [3, 6, 2, 4, 0, 1, 5] = some [4, 0, 1, 2, 3, 5, 6] := by decide +kernel
theorem oc_7_48 : itC 7 60 [4, 0, 1, 2, 3, 5, 6] = some [4, 0, 3, 5, 1, 2, 6] := by decide +kernel
theorem oc_7_49 : itC 7 60 [4, 0, 3, 5, 1, 2, 6] = some [4, 1, 0, 2, 3, 5, 6] := by decide +kernel
theorem oc_7_50 : itC 7 60 [4, 1, 0, 2, 3, 5, 6] = some [4, 1, 3, 5, 0, 2, 6] := by decide +kernel
theorem oc_7_51 : itC 7 60 [4, 1, 3, 5, 0, 2, 6] = some [4, 2, 0, 1, 3, 5, 6] := by decide +kernel
theorem oc_7_52 : itC 7 60 [4, 2, 0, 1, 3, 5, 6] = some [4, 2, 3, 5, 0, 1, 6] := by decide +kernel
theorem oc_7_53 : itC 7 60 [4, 2, 3, 5, 0, 1, 6] = some [4, 3, 0, 1, 2, 5, 6] := by decide +kernel
theorem oc_7_54 : itC 7 60 [4, 3, 0, 1, 2, 5, 6] = some [4, 3, 2, 5, 0, 1, 6] := by decide +kernel
theorem oc_7_55 : itC 7 60 [4, 3, 2, 5, 0, 1, 6] = some [4, 5, 0, 1, 2, 3, 6] := by decide +kernel
theorem oc_7_56 : itC 7 60 [4, 5, 0, 1, 2, 3, 6] = some [4, 5, 2, 3, 0, 1, 6] := by decide +kernel
theorem oc_7_57 : itC 7 60 [4, 5, 2, 3, 0, 1, 6] = some [4, 6, 0, 1, 2, 3, 5] := by decide +kernel
theorem oc_7_58 : itC 7 60 [4, 6, 0, 1, 2, 3, 5] = some [4, 6, 2, 3, 0, 1, 5] := by decide +kernel
theorem oc_7_59 : itC 7 60 [4, 6, 2, 3, 0, 1, 5] = some [5, 0, 1, 2, 3, 4, 6] := by decide +kernel
theorem oc_7_60 : itC 7 60 [5, 0, 1, 2, 3, 4, 6] = some [5, 0, 3, 4, 1, 2, 6] := by decide +kernel
theorem oc_7_61 : itC 7 60 [5, 0, 3, 4, 1, 2, 6] = some [5, 1, 0, 2, 3, 4, 6] := by decide +kernel
theorem oc_7_62 : itC 7 60 [5, 1, 0, 2, 3, 4, 6] = some [5, 1, 3, 4, 0, 2, 6] := by decide +kernel
theorem oc_7_63 : itC 7 60 [5, 1, 3, 4, 0, 2, 6] = some [5, 2, 0, 1, 3, 4, 6] := by decide +kernel
theorem oc_7_64 : itC 7 60 [5, 2, 0, 1, 3, 4, 6] = some [5, 2, 3, 4, 0, 1, 6] := by decide +kernel
theorem oc_7_65 : itC 7 60 [5, 2, 3, 4, 0, 1, 6] = some [5, 3, 0, 1, 2, 4, 6] := by decide +kernel
theorem oc_7_66 : itC 7 60 [5, 3, 0, 1, 2, 4, 6] = some [5, 3, 2, 4, 0, 1, 6] := by decide +kernel
theorem oc_7_67 : itC 7 60 [5, 3, 2, 4, 0, 1, 6] = some [5, 4, 0, 1, 2, 3, 6] := by decide +kernel
theorem oc_7_68 : itC 7 60 [5, 4, 0, 1, 2, 3, 6] = some [5, 4, 2, 3, 0, 1, 6] := by decide +kernel
theorem oc_7_69 : itC 7 60 [5, 4, 2, 3, 0, 1, 6] = some [5, 6, 0, 1, 2, 3, 4] := by decide +kernel
theorem oc_7_70 : itC 7 60 [5, 6, 0, 1, 2, 3, 4] = some [5, 6, 2, 3, 0, 1, 4] := by decide +kernel
theorem oc_7_71 : itC 7 60 [5, 6, 2, 3, 0, 1, 4] = some [6, 0, 1, 2, 3, 4, 5] := by decide +kernel
theorem oc_7_72 : itC 7 60 [6, 0, 1, 2, 3, 4, 5] = some [6, 0, 3, 4, 1, 2, 5] := by decide +kernel
theorem oc_7_73 : itC 7 60 [6, 0, 3, 4, 1, 2, 5] = some [6, 1, 0, 2, 3, 4, 5] := by decide +kernel
theorem oc_7_74 : itC 7 60 [6, 1, 0, 2, 3, 4, 5] = some [6, 1, 3, 4, 0, 2, 5] := by decide +kernel
theorem oc_7_75 : itC 7 60 [6, 1, 3, 4, 0, 2, 5] = some [6, 2, 0, 1, 3, 4, 5] := by decide +kernel
theorem oc_7_76 : itC 7 60 [6, 2, 0, 1, 3, 4, 5] = some [6, 2, 3, 4, 0, 1, 5] := by decide +kernel
theorem oc_7_77 : itC 7 60 [6, 2, 3, 4, 0, 1, 5] = some [6, 3, 0, 1, 2, 4, 5] := by decide +kernel
theorem oc_7_78 : itC 7 60 [6, 3, 0, 1, 2, 4, 5] = some [6, 3, 2, 4, 0, 1, 5] := by decide +kernel
theorem oc_7_79 : itC 7 60 [6, 3, 2, 4, 0, 1, 5] = some [6, 4, 0, 1, 2, 3, 5] := by decide +kernel
theorem oc_7_80 : itC 7 60 [6, 4, 0, 1, 2, 3, 5] = some [6, 4, 2, 3, 0, 1, 5] := by decide +kernel
theorem oc_7_81 : itC 7 60 [6, 4, 2, 3, 0, 1, 5] = some [6, 5, 0, 1, 2, 3, 4] := by decide +kernel
theorem oc_7_82 : itC 7 60 [6, 5, 0, 1, 2, 3, 4] = some [6, 5, 2, 3, 0, 1, 4] := by decide +kernel
theorem oc_7_83 : itC 7 59 [6, 5, 2, 3, 0, 1, 4] = some [6, 5, 4, 3, 2, 1, 0] := by decide +kernel
theorem oe_7 : nxF 7 [6, 5, 4, 3, 2, 1, 0] = none := by decide +kernel
